/-! worlds up to their order; a contract with more cells around it -/
theorem vP_mem {D : va_G} {cl : List vw_C} {ws : va_W} {H : Heap} : va_P D cl ws H ↔ ∀ q ∈ ws, va_at D cl q H :=
  ⟨fun h q hq => by obtain ⟨k, hk⟩ := List.getElem?_of_mem hq; exact h k q hk, fun h k q hk => h q (List.mem_of_getElem? hk)⟩
theorem vD_pw {A : Nat → Prop} {ws : va_W} : va_D A ws ↔ ws.Pairwise (fun p q => p.1 ≠ q.1) ∧ ∀ q ∈ ws, A q.1 := by
  constructor
  · intro h
    refine ⟨List.pairwise_iff_getElem.mpr (fun i j hi hj hij he => ?_), fun q hq => ?_⟩
    · have := h.1 i j ws[i] ws[j] (List.getElem?_eq_getElem hi) (List.getElem?_eq_getElem hj) he
      omega
    · obtain ⟨k, hk⟩ := List.getElem?_of_mem hq
      exact h.2 k q hk
  · intro h
    refine ⟨fun i j p q hp hq he => ?_, fun k q hk => h.2 q (List.mem_of_getElem? hk)⟩
    obtain ⟨hi, rfl⟩ := List.getElem?_eq_some_iff.mp hp
    obtain ⟨hj, rfl⟩ := List.getElem?_eq_some_iff.mp hq
    rcases Nat.lt_trichotomy i j with hl | hl | hl
    · exact absurd he (List.pairwise_iff_getElem.mp h.1 i j hi hj hl)
    · exact hl
    · exact absurd he.symm (List.pairwise_iff_getElem.mp h.1 j i hj hi hl)
theorem vP_perm {D : va_G} {cl : List vw_C} {ws ws' : va_W} {H : Heap} (hp : ws.Perm ws') (h : va_P D cl ws H) : va_P D cl ws' H := vP_mem.mpr fun q hq => vP_mem.mp h q (hp.mem_iff.mpr hq)
theorem vD_perm {A : Nat → Prop} {ws ws' : va_W} (hp : ws.Perm ws') (h : va_D A ws) : va_D A ws' := by
  obtain ⟨h1, h2⟩ := vD_pw.mp h
  exact vD_pw.mpr ⟨(hp.pairwise_iff (fun h => h.symm)).mp h1, fun q hq => h2 q (hp.mem_iff.mpr hq)⟩
theorem vP_left {D : va_G} {cl : List vw_C} {w1 w2 : va_W} {H : Heap} (h : va_P D cl (w1 ++ w2) H) : va_P D cl w1 H := vP_mem.mpr fun q hq => vP_mem.mp h q (List.mem_append_left _ hq)
theorem vP_right {D : va_G} {cl : List vw_C} {w1 w2 : va_W} {H : Heap} (h : va_P D cl (w1 ++ w2) H) : va_P D cl w2 H := vP_mem.mpr fun q hq => vP_mem.mp h q (List.mem_append_right _ hq)
theorem vD_left {A : Nat → Prop} {w1 w2 : va_W} (h : va_D A (w1 ++ w2)) : va_D A w1 := by
  obtain ⟨h1, h2⟩ := vD_pw.mp h
  exact vD_pw.mpr ⟨(List.pairwise_append.mp h1).1, fun q hq => h2 q (List.mem_append_left _ hq)⟩
theorem vA_mem {ws : va_W} {sz q : Nat} : va_A ws sz q ↔ (∃ e, (q, e) ∈ ws) ∨ sz ≤ q := by
  constructor
  · rintro (⟨k, e, h⟩ | h)
    · exact Or.inl ⟨e, List.mem_of_getElem? h⟩
    · exact Or.inr h
  · rintro (⟨e, h⟩ | h)
    · obtain ⟨k, hk⟩ := List.getElem?_of_mem h
      exact Or.inl ⟨k, e, hk⟩
    · exact Or.inr h
theorem vA_sub {wc wr L : va_W} {sz q : Nat} (hp : L.Perm (wc ++ wr)) (h : va_A wc sz q) : va_A L sz q := by
  rcases vA_mem.mp h with ⟨e, h⟩ | h
  · exact vA_mem.mpr (Or.inl ⟨e, hp.mem_iff.mpr (List.mem_append_left _ h)⟩)
  · exact vA_mem.mpr (Or.inr h)
/-- the frame rule, by lists -/
theorem vJ {D : va_G} {cl : List vw_C} {wc wr w1 L : va_W} {H H1 : Heap} {A0 : Nat → Prop} {sz : Nat} (hsz : H.size = sz) (hp : L.Perm (wc ++ wr)) (hP : va_P D cl L H) (hD : va_D A0 L)
    (hk : ∀ q : Nat, q < H.size → ¬ va_A wc sz q → H1[q]? = H[q]?) (hP1 : va_P D cl w1 H1) (hD1 : va_D (va_A wc sz) w1) : va_P D cl (w1 ++ wr) H1 ∧ va_D (va_A L sz) (w1 ++ wr) := by
  have hP' := vP_perm hp hP
  have hD' := vD_pw.mp (vD_perm hp hD)
  have apart : ∀ q ∈ wr, q.1 < H.size ∧ ¬ va_A wc sz q.1 := by
    intro q hq
    have hl := (vP_mem.mp hP' q (List.mem_append_right _ hq)).lt
    refine ⟨hl, fun h => ?_⟩
    rcases vA_mem.mp h with ⟨e, h⟩ | h
    · exact (List.pairwise_append.mp hD'.1).2.2 _ h _ hq rfl
    · omega
  refine ⟨vP_mem.mpr fun q hq => ?_, vD_pw.mpr ⟨List.pairwise_append.mpr ⟨(vD_pw.mp hD1).1, (List.pairwise_append.mp hD'.1).2.1, fun a ha b hb he => ?_⟩, fun q hq => ?_⟩⟩
  · rcases List.mem_append.mp hq with h | h
    · exact vP_mem.mp hP1 q h
    · exact (vP_mem.mp hP' q (List.mem_append_right _ h)).kept (hk q.1 (apart q h).1 (apart q h).2)
  · exact (apart b hb).2 (he ▸ (vD_pw.mp hD1).2 a ha)
  · rcases List.mem_append.mp hq with h | h
    · exact vA_sub hp ((vD_pw.mp hD1).2 q h)
    · exact vA_mem.mpr (Or.inl ⟨q.2, hp.mem_iff.mpr (List.mem_append_right _ h)⟩)
theorem cN_frame {l : Launch} {y : MethodName} {ww : List Cond} {rm : Room} {G : gG} {sz : Nat} {av : List Value} {wc w1 wr L L1 : va_W} {rv : Option Value} {mc ms : Nat} (hM : cN l y ww rm G sz av wc rv (wB G w1) mc ms) (h1 : L.Perm (wc ++ wr)) (h2 : (w1 ++ wr).Perm L1) : cN l y ww rm G sz av L rv (wB G L1) mc ms := by
  refine MetFree.mono hM (fun a s h => ?_) (fun _ _ _ _ _ h => h) (fun a s o t hpre h => ?_)
  · obtain ⟨e, hsz, hP, hK, hD⟩ := h
    exact ⟨e, hsz, vP_left (vP_perm h1 hP), hK, vD_left (vD_perm h1 hD)⟩
  · obtain ⟨e, hsz, hP, hK, hD⟩ := hpre
    obtain ⟨⟨ho, hB, hF⟩, Lc, hFE, hfr⟩ := h
    obtain ⟨g1, g2⟩ := vJ hsz h1 hP hD hF.2 hB.1 hB.2
    exact ⟨⟨ho, ⟨vP_perm h2 g1, vD_perm h2 g2⟩, hF.1, fun q hq hn => hF.2 q hq (fun z => hn (vA_sub h1 z))⟩, Lc, hFE, fun q hq => vA_sub h1 (hfr q hq)⟩
/-- .. with any end -/
theorem cN_frameE {l : Launch} {y : MethodName} {ww : List Cond} {rm : Room} {G : gG} {sz : Nat} {av : List Value} {wc wr L : va_W} {rv : Option Value} {mc ms : Nat} {B B' : (Nat → Prop) → Heap → Prop} (hM : cN l y ww rm G sz av wc rv B mc ms) (h1 : L.Perm (wc ++ wr))
    (hB : ∀ (H1 : Heap), B (va_A wc sz) H1 → ∃ w1, wB G w1 (va_A wc sz) H1 ∧ (wB G (w1 ++ wr) (va_A L sz) H1 → B' (va_A L sz) H1)) : cN l y ww rm G sz av L rv B' mc ms := by
  refine MetFree.mono hM (fun a s h => ?_) (fun _ _ _ _ _ h => h) (fun a s o t hpre h => ?_)
  · obtain ⟨e, hsz, hP, hK, hD⟩ := h
    exact ⟨e, hsz, vP_left (vP_perm h1 hP), hK, vD_left (vD_perm h1 hD)⟩
  · obtain ⟨e, hsz, hP, hK, hD⟩ := hpre
    obtain ⟨⟨ho, hB1, hF⟩, Lc, hFE, hfr⟩ := h
    obtain ⟨w1, hB2, hB3⟩ := hB _ hB1
    obtain ⟨g1, g2⟩ := vJ hsz h1 hP hD hF.2 hB2.1 hB2.2
    exact ⟨⟨ho, hB3 ⟨g1, g2⟩, hF.1, fun q hq hn => hF.2 q hq (fun z => hn (vA_sub h1 z))⟩, Lc, hFE, fun q hq => vA_sub h1 (hfr q hq)⟩
