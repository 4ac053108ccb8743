/-! THE CLAIM OUT OF ONE WALK OF THE LAW'S BODY. Your part is whole_start (and what it stands on); all else here is the same for every law, but numbers. -/
def R_law : String := "PlayStatesLaw"
def lw_P (b : Addr) (xs : List Int32) (args : Array Value) (s : State) : Prop := args = #[.ref b] ∧ s.IntsAt b xs ∧ xs.length ≤ 2561 ∧ (Jvm.Cond.and given_1 narrow_1).before args s = true
def lw_Q (_ : Array Value) (s : State) (o : Outcome) (t : State) : Prop := o = .returned (some (.int 1)) ∧ Framed s o t [] 600000 7302250
def lw_Z (below : List Frame) (a : Array Value) (s : State) : State → Prop := fun t => ∃ o, t.status = .running ∧ Ended t below o ∧ lw_Q a s o t
/-- the law's own end, with 1 on the stack, nothing written that was there before, its room as the claim has it -/
theorem lw_ret {p : Program} {l : Launch} {e : Env} {s : State} {m : MethodId} {below : List Frame} {meth : Method} {c : Code} {b : Nat} (hx : p.tables.exec = Jvm.exec) (hb : c.code = code) (hr : meth.sig.returnType = ret) (hlocks : meth.locks = false) {pc : Nat} {H : Heap} {ls : Array Slot} (hdg : decode code pc = .ok (.ireturn, 1)) : W p l e room_1 s m #[Value.ref b] below meth c H [] 600000 7302250 (lw_Z below #[Value.ref b] s) (F0 m pc ls [.int 1]) := by
  intro T hT X
  obtain ⟨fs, hret, hrun, hended, hW, hframe⟩ := X.leave (v := some (.int 1)) (hlocks := hlocks) (fun h => by rw [hr] at h; cases h)
  have hmeth' : T.vm.method? m = some meth := X.method'
  refine ⟨T.setFrames fs, ?_, .returned (some (.int 1)), hrun, hended, rfl, ⟨_, rfl⟩, hW, hframe⟩
  jvm_step X.here [X.here.top, hx, hb, hdg, hmeth', hr, ret, narrow_b1]
  (try refine ⟨rfl, ?_⟩); (try refine ⟨rfl, ?_⟩)
  first | (intro acts; rw [hret _ acts rfl rfl rfl]) | rw [hret _ _ rfl rfl rfl]
  exact Steps.refl _
/-- what holds at the law's entry: the machine, the code, the tables' words (any of lw_tbl by 'hts w (by decide +kernel)'), the script of L ints xs at the cell b, what the Statement gives of the start (any of its parts by flat_of_before) -/
def lw_At (p : Program) (s : State) (m : MethodId) (meth : Method) (c : Code) (b L : Nat) (xs : Nat → Int32) : Prop :=
  p.tables.exec = Jvm.exec ∧ c.code = code ∧ meth.sig.returnType = ret ∧ c.maxLocals = 4 ∧ s.vm.findClass R_law = some m.cls ∧ (∀ w ∈ lw_tbl, w.before #[Value.ref b] s = true) ∧ va_X b L xs s s.heap ∧ b < s.heap.size ∧ meth.locks = false ∧ (Jvm.Cond.and given_1 narrow_1).before #[Value.ref b] s = true

theorem gw_548 : (.constantLong "PlayStatesLaw" 75 (4294967295 : Int64) : Cond) ∈ GW := gT 626 (by decide +kernel) (by decide +kernel)

/-- what is new since the entry -/
abbrev lA (s : State) : Nat → Prop := fun q => s.heap.size ≤ q
def Wd (s : State) (G : gG) (w : va_W) (H : Heap) (locs : List Loc) : Prop := va_P G.1 vwCl w H ∧ va_D (lA s) w ∧ va_S (lA s) s.heap H locs
theorem Good_C {G : gG} {ax bx : Nat} {w : va_W} (h : Good G ax bx w) : ∃ (q0 ci : Nat) (q : vw_C) (fs : List Value), vwCl[ci]? = some q ∧ q.1 = "PlayStates" ∧ w[q0]? = some (ax, .inr (ci, fs)) := by
  obtain ⟨ad, am, pa, n, k, m, u, ri, ps, tp, tt, tb, th, jn, un, dE, dM, rp, rm, ro, rl, PR, HC, EN, MK, RU, LT, CT, mth, mat, mso, mfo, mtr, men, mmk, mpr, mhp, mct, mtd, mru, mwh, mwe, mwt, mbf, mbh, mon, mte, mtm, mtx, rfl, rfl, hR, rfl⟩ := h
  exact ⟨0, 5, _, _, rfl, rfl, rfl⟩
set_option maxHeartbeats 4000000 in
theorem L_call {p : Program} {l : Launch} {e : Env} {s : State} {m : MethodId} {below : List Frame} {meth : Method} {c : Code} {G : gG} {b L : Nat} {xs : Nat → Int32} {Q : State → Prop} {H : Heap} {locs : List Loc} {cells slots pc : Nat} {ls : Array Slot} {rest : List Value} {C : String} {index n maxL bq mc ms : Nat} {y : MethodName} {ww : List Cond} {bytes : ByteArray} {ret : Option FieldType} {w : va_W} {av : List Value} {v : Value} {rm : Room} {B : (Nat → Prop) → Heap → Prop} {X : va_W → Prop}
    (C0 : lw_At p s m meth c b L xs) (hK : va_K G.1 vwCl (tyL G) s) (hN : nW s) (hc : ∀ sz, cN l y ww rm G sz (.ref bq :: av) w (some v) B mc ms) (hB : ∀ A H, B A H → ∃ w1, wB G w1 A H ∧ X w1) (hrc : rm.cells = mc) (hrs : rm.slots = ms)
    (hw : ww = Cond.code y bytes maxL ret :: GW) (hg : GoodIn GW (wsV R_law index C y ww))
    (hd : y.cls = C ∧ y.cls ≠ "java/lang/invoke/MethodHandle" ∧ y.cls ≠ "java/lang/invoke/VarHandle" ∧ (parseMethodDescriptor y.desc).map (fun d => d.parameters.length) = some n)
    (hn : av.length = n) (h1 : rm.frames ≤ 5) (h2 : rm.locals ≤ 120) (h3 : maxL ≤ 80)
    (hr : ∃ (q0 ci : Nat) (q : vw_C) (fs : List Value), vwCl[ci]? = some q ∧ q.1 = C ∧ w[q0]? = some (bq, .inr (ci, fs)))
    (hW : Wd s G w H locs) (hst : (rest.map fun v => v.category).sum ≤ 8) (hls : ls.size = 4) (hroom : cells + mc ≤ 600000 ∧ slots + ms ≤ 7302250)
    (hdg : decode code pc = .ok (.invokevirtual index, 3))
    (kk : ∀ (w1 : va_W) (H1 : Heap) (locs1 : List Loc), X w1 → Wd s G w1 H1 locs1 → W p l e room_1 s m #[Value.ref b] below meth c H1 locs1 (cells + mc) (slots + ms) Q (F0 m (pc + 3) ls (v :: rest))) :
    W p l e room_1 s m #[Value.ref b] below meth c H locs cells slots Q (F0 m pc ls (av.reverse ++ .ref bq :: rest)) := by
  obtain ⟨hx, hb, -, hml, hown, hts, -⟩ := C0
  obtain ⟨hP, hD, hS⟩ := hW
  obtain ⟨q0, ci, q, fs, e1, rfl, e3⟩ := hr
  have htg : ∀ w ∈ GW, w.before #[Value.ref b] s = true := fun w h => hts w (GW_in w h)
  have hF : ∀ q, va_A w H.size q → lA s q := fun q h => by
    rcases h with ⟨k, e, h⟩ | h
    · exact hD.2 k (q, e) h
    · exact Nat.le_trans hS.1 h
  refine q_call1 (va_runV (As := av) (rest := rest) ⟨hx, hb, hml, hown, htg⟩ (hc H.size) (cwV n htg hg hw hrc hrs hd ⟨by show rm.frames + 1 ≤ 7; omega, by show 8 + (maxL + 11) + rm.locals ≤ 238; omega⟩) (pV hK hN hP hD e1 e3) rfl hn hls rfl (lv_room hst) hdg hroom) hS (fun q _ h => hF q h) hF (fun H1 locs1 hb1 hz hk hS1 => ?_)
  obtain ⟨w1, hB1, hX1⟩ := hB _ _ hb1
  obtain ⟨hP1, hD1⟩ := q_joinA hF hB1.1 hB1.2
  exact kk w1 H1 locs1 hX1 ⟨hP1, hD1, hS1⟩
/-- the law's locals -/
abbrev lvL (b ax bx : Nat) (i : Int32) : List (Nat × Value) := [(0, .ref b), (1, .ref ax), (2, .ref bx), (3, .int i)]
def ldk (pc : Nat) (k : Int) : Prop := decode code pc = .ok (.aload_n 0, 1) ∧ decode code (pc + 1) = .ok (.iload_n 3, 1) ∧ decode code (pc + 2) = .ok (.iconst k, 1) ∧ decode code (pc + 3) = .ok (.iadd, 1) ∧ decode code (pc + 4) = .ok (.iaload, 1)
/-- script[i + k] -/
theorem L_ld {p : Program} {l : Launch} {e : Env} {s : State} {m : MethodId} {below : List Frame} {meth : Method} {c : Code} {b L : Nat} {xs : Nat → Int32} {Q : State → Prop} {H : Heap} {locs : List Loc} {cells slots pc : Nat} {ls : Array Slot} {rest : List Value} {ax bx i : Nat} (C0 : lw_At p s m meth c b L xs) (hL : L ≤ 2561) (hl : lv_has ls 4 (lvL b ax bx (nI i))) (hS : va_S (lA s) s.heap H locs) (hi : i + 5 ≤ L) (k : Nat) {kI : Int} (hk : k ≤ 4) (hv : Int32.ofInt kI = nI k) (hd : ldk pc kI)
    (kk : W p l e room_1 s m #[Value.ref b] below meth c H locs cells slots Q (F0 m (pc + 5) ls (.int (xs (i + k)) :: rest))) : W p l e room_1 s m #[Value.ref b] below meth c H locs cells slots Q (F0 m pc ls rest) := by
  obtain ⟨hx, hb, -, hml, hown, hts, hX, hbl, -⟩ := C0
  obtain ⟨d0, d1, d2, d3, d4⟩ := hd
  have hbA : ¬ lA s b := Nat.not_le.mpr hbl
  refine lv_aload_n hx hb d0 rfl (lv_at hl 0 rfl) ?_
  refine lv_iload_n hx hb d1 rfl (lv_at hl 3 rfl) ?_
  refine lv_iconst (v := nI k) hx hb d2 hv ?_
  refine lv_iadd hx hb d3 ?_
  rw [nI_add]
  refine va_sld hx hb hX hbl hbA hS (vp_in_nI (show i + k < L by omega) (by omega)) d4 ?_
  rw [nI_clamp (by omega)]
  exact kk
def bok (pc : Nat) : Prop := ldk pc 4 ∧ decode code (pc + 5) = .ok (.ifCond .eq 7, 3) ∧ decode code (pc + 8) = .ok (.iconst 1, 1) ∧ decode code (pc + 9) = .ok (.goto 4, 3) ∧ decode code (pc + 12) = .ok (.iconst 0, 1)
def boV (x : Int32) : Int32 := if x = 0 then 0 else 1
theorem boV_01 (x : Int32) : boV x = 0 ∨ boV x = 1 := by
  unfold boV
  by_cases h : x = 0
  · rw [if_pos h]; exact Or.inl rfl
  · rw [if_neg h]; exact Or.inr rfl
/-- script[i + 4] != 0 -/
theorem L_bo {p : Program} {l : Launch} {e : Env} {s : State} {m : MethodId} {below : List Frame} {meth : Method} {c : Code} {b L : Nat} {xs : Nat → Int32} {Q : State → Prop} {H : Heap} {locs : List Loc} {cells slots pc : Nat} {ls : Array Slot} {rest : List Value} {ax bx i : Nat} (C0 : lw_At p s m meth c b L xs) (hL : L ≤ 2561) (hl : lv_has ls 4 (lvL b ax bx (nI i))) (hS : va_S (lA s) s.heap H locs) (hi : i + 5 ≤ L) (hd : bok pc)
    (kk : W p l e room_1 s m #[Value.ref b] below meth c H locs cells slots Q (F0 m (pc + 13) ls (.int (boV (xs (i + 4))) :: rest))) : W p l e room_1 s m #[Value.ref b] below meth c H locs cells slots Q (F0 m pc ls rest) := by
  have hx := C0.1
  have hb := C0.2.1
  obtain ⟨d0, d1, d2, d3, d4⟩ := hd
  refine L_ld C0 hL hl hS hi 4 (by decide) (by decide) d0 ?_
  refine lv_if_eq (tgt := pc + 12) hx hb d1 (by omega) (fun h => ?_) (fun h => ?_)
  · refine lv_iconst (v := 0) hx hb d4 (by decide) ?_
    rw [show boV (xs (i + 4)) = 0 from if_pos h] at kk
    exact kk
  · refine lv_iconst (v := 1) hx hb d2 (by decide) ?_
    refine lv_goto (tgt := pc + 13) hx hb d3 (by omega) ?_
    rw [show boV (xs (i + 4)) = 1 from if_neg h] at kk
    exact kk
def lgk (pc : Nat) : Prop := ldk pc 2 ∧ decode code (pc + 5) = .ok (.i2l, 1) ∧ decode code (pc + 6) = .ok (.bipush 32, 2) ∧ decode code (pc + 8) = .ok (.lshl, 1) ∧ ldk (pc + 9) 3 ∧ decode code (pc + 14) = .ok (.i2l, 1) ∧ decode code (pc + 15) = .ok (.ldc2_w 75, 3) ∧ decode code (pc + 18) = .ok (.land, 1) ∧ decode code (pc + 19) = .ok (.lor, 1)
def lgV (x y : Int32) : Int64 := (x.toInt64 <<< ((32 : Int32).toInt64 &&& 63)) ||| (y.toInt64 &&& (4294967295 : Int64))
/-- ((long) script[i + 2] << 32) | (script[i + 3] & 0xFFFFFFFFL) -/
theorem L_lg {p : Program} {l : Launch} {e : Env} {s : State} {m : MethodId} {below : List Frame} {meth : Method} {c : Code} {b L : Nat} {xs : Nat → Int32} {Q : State → Prop} {H : Heap} {locs : List Loc} {cells slots pc : Nat} {ls : Array Slot} {rest : List Value} {ax bx i : Nat} (C0 : lw_At p s m meth c b L xs) (hL : L ≤ 2561) (hl : lv_has ls 4 (lvL b ax bx (nI i))) (hS : va_S (lA s) s.heap H locs) (hi : i + 5 ≤ L) (hd : lgk pc)
    (kk : W p l e room_1 s m #[Value.ref b] below meth c H locs cells slots Q (F0 m (pc + 20) ls (.long (lgV (xs (i + 2)) (xs (i + 3))) :: rest))) : W p l e room_1 s m #[Value.ref b] below meth c H locs cells slots Q (F0 m pc ls rest) := by
  have hx := C0.1
  have hb := C0.2.1
  have hown := C0.2.2.2.2.1
  have hts := C0.2.2.2.2.2.1
  obtain ⟨d0, d1, d2, d3, d4, d5, d6, d7, d8⟩ := hd
  refine L_ld C0 hL hl hS hi 2 (by decide) (by decide) d0 ?_
  refine lv_i2l hx hb d1 rfl ?_
  refine lv_bipush (v := 32) hx hb d2 (by decide) ?_
  refine lv_lshl hx hb d3 rfl ?_
  refine L_ld C0 hL hl hS hi 3 (by decide) (by decide) d4 ?_
  refine lv_i2l hx hb d5 rfl ?_
  refine lv_ldc2 (own := R_law) hx hb hown (hts _ (GW_in _ gw_548)) d6 ?_
  refine lv_land hx hb d7 ?_
  refine lv_lor hx hb d8 ?_
  exact kk
theorem lg_self (x : Int64) : lg_cmp x x = 0 := by simp [lg_cmp, Int64.lt_irrefl]
