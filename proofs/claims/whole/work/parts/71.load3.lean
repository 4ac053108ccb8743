/-! load, whole -/
theorem Rel_u0 {n k m u : Nat} {pa : Nat → Nat → Nat} {ri : Nat → Int32} {ps : Nat → Option Nat} {tp tt tb th un : Nat → Int32} {PR HC : Nat → Int32} {EN MK : Nat → Nat → Int32} {RU : Nat → Int32} {LT CT : Nat → Int64} {mtr men mmk mpr mhp : Nat → Int32} {mct mtd : Nat → Int64} {mru mwh mwe mwt mbf mbh mtx : Nat → Int32} (hR : Rel n k m u pa ri ps tp tt tb th un PR HC EN MK RU LT CT mtr men mmk mpr mhp mct mtd mru mwh mwe mwt mbf mbh mtx) : Rel n k m 0 pa ri ps tp tt tb th un PR HC EN MK RU LT CT mtr men mmk mpr mhp mct mtd mru mwh mwe mwt mbf mbh mtx := by
  obtain ⟨⟨n1, n81, k8, m6, u1⟩, hT, hps, hP, hRw, hF, hU⟩ := hR
  exact ⟨⟨n1, n81, k8, m6, by omega⟩, hT, hps, hP, hRw, hF, fun i hi => by omega⟩
theorem whole_y (n : Nat) (mo lm : Int32) : f_Sr_isWhole (nI n) (nI n) mo 0 lm = some 1 := by
  unfold f_Sr_isWhole
  rw [if_pos rfl, it0]
theorem whole_n {n : Nat} {q mo op lm : Int32} (h : ¬ (q = nI n ∧ op = 0)) : f_Sr_isWhole (nI n) q mo op lm = some 0 := by
  unfold f_Sr_isWhole
  by_cases h1 : q = nI n
  · rw [if_pos h1, if_neg (fun h2 => h ⟨h1, h2⟩)]
  · rw [if_neg h1]
theorem R_load {n k m u : Nat} {pa : Nat → Nat → Nat} {ri : Nat → Int32} {ps : Nat → Option Nat} {tp tt tb th un : Nat → Int32} {PR HC : Nat → Int32} {EN MK : Nat → Nat → Int32} {RU : Nat → Int32} {LT CT : Nat → Int64} {mtr men mmk mpr mhp : Nat → Int32} {mct mtd : Nat → Int64} {mru mwh mwe mwt mbf mbh mtx : Nat → Int32} (hR : Rel n k m u pa ri ps tp tt tb th un PR HC EN MK RU LT CT mtr men mmk mpr mhp mct mtd mru mwh mwe mwt mbf mbh mtx) {fu : Nat} (hfu : 2000 ≤ fu) (a t o f rp rm ro rl : Int32) (dE dM tE tM : Nat → Int32) :
    ∃ y1 : pY, f_PS_readUnits fu n (nI n) (nI k) (nI u) un dE dM (nI n) rp rm ro rl = some y1 ∧ ∃ tE' tM' : Nat → Int32,
    ((∃ A, A ≤ u ∧ y1.1 = nI A ∧ (A = u → f_Sr_isWhole (nI n) y1.2.2.2.1 y1.2.2.2.2.1 y1.2.2.2.2.2.1 y1.2.2.2.2.2.2 = some 0) ∧ f_Md_load fu a (nI n) (nI k) (nI m) (nI u) t o f men mmk mpr mwh mwe mwt mbf mbh tE tM mtx = some ((-1 : Int32) - nI A, 0, nI k, nI m, 0, men, mmk, mpr, mwh, mwe, mwt, mbf, mbh, tE', tM')) ∨
     (y1.1 = nI u ∧ f_Sr_isWhole (nI n) y1.2.2.2.1 y1.2.2.2.2.1 y1.2.2.2.2.2.1 y1.2.2.2.2.2.2 = some 1 ∧ ∃ T, f_Bd_countRowsNeeded fu n y1.2.1 y1.2.2.1 = some (nI T) ∧ T ≤ 810 ∧
       (((k = 8 ∨ 600 < m + T) ∧ f_Md_load fu a (nI n) (nI k) (nI m) (nI u) t o f men mmk mpr mwh mwe mwt mbf mbh tE tM mtx = some (-1001, 0, nI k, nI m, 0, men, mmk, mpr, mwh, mwe, mwt, mbf, mbh, tE', tM')) ∨
        (k < 8 ∧ m + T ≤ 600 ∧ ∃ (m' : Nat) (tp' tt' tb' th' : Nat → Int32) (pr' : Int32) (en' mk' men' mmk' mpr' mwh' mwe' mwt' mbf' mbh' : Nat → Int32), f_PS_tellDraft fu n (nI n) (nI (k + 1)) 0 (nI m) tp tt tb th y1.2.1 y1.2.2.1 (nI k) ((-1 : Int32) - nI k) 0 (fun _ => 0) (fun _ => 0) = some (nI m', tp', tt', tb', th', pr', en', mk') ∧ f_Md_load fu a (nI n) (nI k) (nI m) (nI u) t o f men mmk mpr mwh mwe mwt mbf mbh tE tM mtx = some (nI k, 0, nI (k + 1), nI m', 0, men', mmk', mpr', mwh', mwe', mwt', mbf', mbh', tE', tM') ∧
          ∀ b : Nat → Nat, Rel n (k + 1) m' 0 (va_up pa k b) ri (va_up ps k (some (b 0))) tp' tt' tb' th' un (va_up PR k pr') (va_up HC k 0) (va_up EN k en') (va_up MK k mk') (va_up RU k 0) (va_up LT k 0) (va_up CT k 0) mtr men' mmk' mpr' mhp mct mtd mru mwh' mwe' mwt' mbf' mbh' mtx)))) := by
  have hR0 := hR
  obtain ⟨⟨n1, n81, k8, m6, u1⟩, hT, hps, hP, hRw, hF, hU⟩ := hR
  obtain ⟨e0, x0, b1, b2⟩ := clear_eq n81 (show 1000 ≤ fu by omega) dE dM
  obtain ⟨X, Y, p1, p2, p3⟩ := (parse_both n81 u1 hfu (nI n) (nI k) 0 (nI n) (nI k) (nI m) t o f un mtx hU u).1 0 0 fu fu e0 x0 tE tM 0 rl (by omega) (by omega) (by omega) (by omega) (Or.inl rfl) (fun i hi => by omega) (fun c' _ h2 => (b2 c' h2).2)
  have hr : f_PS_readUnits fu n (nI n) (nI k) (nI u) un dE dM (nI n) rp rm ro rl = some Y := by
    unfold f_PS_readUnits f_Sr_begin
    rw [b1, obS, obS]
    exact p2
  have hp : f_Md_parse fu 0 (nI n) (nI k) (nI m) (nI u) t o f tE tM mtx = some X := p1
  refine ⟨Y, hr, X.2.1, X.2.2, ?_⟩
  unfold f_Md_load
  rw [hp, obS]
  rcases p3 with ⟨A, a1, a2, a3, a4⟩ | ⟨a2, a3, a4, a5, a6⟩
  · left
    refine ⟨A, a1, a3, fun h => whole_n (a4 h), ?_⟩
    rw [a2, if_neg (nI_pos (by omega))]
  · right
    rw [a2, if_pos m1_neg, a4, a5]
    have hnd := nd_le X.2.1 X.2.2 n 0
    refine ⟨a3, whole_y n _ _, nd X.2.1 X.2.2 n 0, ?_, by omega, ?_⟩
    · unfold f_Bd_countRowsNeeded
      have := cr_loop n81 fu Y.2.1 Y.2.2.1 (fun c hc => by rw [(a6 c hc).2.2.1]; exact (a6 c hc).2.2.2) n fu 0 0 (by omega) (by omega)
      rw [nd_same (n := n) (e2 := X.2.1) (x2 := X.2.2) (fun c hc => ⟨(a6 c hc).1, (a6 c hc).2.2.1⟩) n 0 (by omega), Nat.zero_add] at this
      exact this
    · obtain ⟨K, hK⟩ := ml27 n81 (show 1000 ≤ fu by omega) t o f mtx (-1) 0 (nI k) (nI m) 0 men mmk mpr mwh mwe mwt mbf mbh X.2.1 X.2.2 (fun c hc => (a6 c hc).2.1) n fu 0 0 (by omega) (by omega)
      rw [Nat.zero_add] at hK
      have hK : f_Md_load_L27 fu (nI n) t o f mtx fu (-1) 0 0 0 (nI k) (nI m) 0 men mmk mpr mwh mwe mwt mbf mbh X.2.1 X.2.2 = _ := hK
      rw [hK]
      unfold fb_Md_load_L27
      rw [if_pos (nI_le (Nat.le_refl n) (by omega)), nI_add]
      by_cases hk : k = 8
      · left
        exact ⟨Or.inl hk, by rw [if_pos (show nI k = (8 : Int32) by rw [hk]; rfl)]⟩
      · rw [if_neg (show ¬ nI k = (8 : Int32) from fun e => hk (nI_inj (b := 8) (by omega) (by decide) e))]
        by_cases hroom : m + nd X.2.1 X.2.2 n 0 ≤ 600
        · right
          refine ⟨by omega, hroom, ?_⟩
          rw [if_pos (show nI (m + nd X.2.1 X.2.2 n 0) ≤ (600 : Int32) from nI_le (b := 600) hroom (by decide)), newP_eq (by omega), obS]
          have hR1 := Rel_new (Rel_u0 hR0) (show k < 8 by omega) (fun _ => 0)
          obtain ⟨m', tp', tt', tb', th', PR', EN', MK', men', mmk', mpr', mwh', mwe', mwt', mbf', mbh', g1, g2, g3, g4⟩ := td_out n81 (show 1000 ≤ fu by omega) 0 t o f (-1) (nI (nd X.2.1 X.2.2 n 0)) 0 0 mtx Y.2.1 Y.2.2.1 X.2.1 X.2.2 (fun c hc => a6 c hc) K n fu 0 m _ _ _ _ _ _ _ _ _ _ _ _ _ _ _ (by omega) (by omega) hR1 hroom (fun i _ _ => by rw [va_up_self, va_up_self]; exact ⟨rfl, rfl⟩)
          rw [va_up_self, va_up_self, va_up_self, va_up_self] at g1
          have eP : PR' = va_up PR k (PR' k) := by
            funext i
            by_cases e : i = k
            · subst e; rw [va_up_self]
            · rw [va_up_ne _ _ e, (g4 i e).1, va_up_ne _ _ e]
          have eE : EN' = va_up EN k (EN' k) := by
            funext i
            by_cases e : i = k
            · subst e; rw [va_up_self]
            · rw [va_up_ne _ _ e, (g4 i e).2.1, va_up_ne _ _ e]
          have eM : MK' = va_up MK k (MK' k) := by
            funext i
            by_cases e : i = k
            · subst e; rw [va_up_self]
            · rw [va_up_ne _ _ e, (g4 i e).2.2, va_up_ne _ _ e]
          refine ⟨m', tp', tt', tb', th', PR' k, EN' k, MK' k, men', mmk', mpr', mwh', mwe', mwt', mbf', mbh', ?_, g2, fun b => ?_⟩
          · unfold f_PS_tellDraft
            exact g1
          · rw [← eP, ← eE, ← eM]
            refine Rel_re g3 (fun s hs => ?_)
            by_cases e : s = k
            · subst e; rw [va_up_self, va_up_self]
            · rw [va_up_ne _ _ e, va_up_ne _ _ e]; exact hps s (by omega)
        · left
          refine ⟨Or.inr (by omega), ?_⟩
          rw [if_neg (show ¬ nI (m + nd X.2.1 X.2.2 n 0) ≤ (600 : Int32) from fun e => hroom ((nI_leI (b := 600) (by omega) (by decide)).mp e))]
