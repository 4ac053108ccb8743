/-! branches, redo, wrong, help -/
theorem root_ne : ∀ j, j < 8 → ∀ r : Nat, r < 2 ^ 31 → (-1 : Int32) - nI j ≠ nI r := fun j hj r hr e => by
  have h := neg_root j hj
  rw [e] at h
  exact nI_pos hr h
theorem root_inj : ∀ i, i < 8 → ∀ j, j < 8 → (-1 : Int32) - nI i = (-1 : Int32) - nI j → i = j := by decide +kernel
/-- a row lies behind the present one, by both -/
theorem br_iff {n k m u : Nat} {pa : Nat → Nat → Nat} {ri : Nat → Int32} {ps : Nat → Option Nat} {tp tt tb th un : Nat → Int32} {PR HC : Nat → Int32} {EN MK : Nat → Nat → Int32} {RU : Nat → Int32} {LT CT : Nat → Int64} {mtr men mmk mpr mhp : Nat → Int32} {mct mtd : Nat → Int64} {mru mwh mwe mwt mbf mbh mtx : Nat → Int32} (hR : Rel n k m u pa ri ps tp tt tb th un PR HC EN MK RU LT CT mtr men mmk mpr mhp mct mtd mru mwh mwe mwt mbf mbh mtx) {j r : Nat} (hj : j < k) (hr : r < m) : th r = PR j ↔ (mwh r = nI j ∧ mbh r = mpr j) := by
  obtain ⟨⟨n1, n81, k8, m6, u1⟩, hT, hps, hP, hRw, hF, hU⟩ := hR
  obtain ⟨-, -, -, -, -, -, q7, q8⟩ := hP j hj
  obtain ⟨-, -, -, -, ⟨i, e5, e6, e7, e8⟩, -⟩ := hRw r hr
  rw [e7, q7, e6]
  rcases e8 with e8 | ⟨q, w1, w2, w3⟩
  · rw [e8, rt_m]
    rcases q8 with q8 | ⟨s, r1, r2, r3⟩
    · rw [q8, rt_m]
      refine ⟨fun h => ⟨by rw [root_inj i (by omega) j (by omega) h], rfl⟩, fun h => ?_⟩
      rw [nI_inj (by omega) (by omega) h.1]
    · rw [r2, rt_n (by omega)]
      refine ⟨fun h => absurd h (root_ne i (by omega) s (by omega)), fun h => absurd h.2.symm (nI_m1 (by omega))⟩
  · rw [w2, rt_n (by omega)]
    rcases q8 with q8 | ⟨s, r1, r2, r3⟩
    · rw [q8, rt_m]
      exact ⟨fun h => absurd h.symm (root_ne j (by omega) q (by omega)), fun h => absurd h.2 (nI_m1 (by omega))⟩
    · rw [r2, rt_n (by omega)]
      refine ⟨fun h => ⟨?_, h⟩, fun h => h.2⟩
      have hqs := nI_inj (by omega) (by omega) h
      subst hqs
      rw [← w3, ← r3]
theorem br_count {n k m u : Nat} {pa : Nat → Nat → Nat} {ri : Nat → Int32} {ps : Nat → Option Nat} {tp tt tb th un : Nat → Int32} {PR HC : Nat → Int32} {EN MK : Nat → Nat → Int32} {RU : Nat → Int32} {LT CT : Nat → Int64} {mtr men mmk mpr mhp : Nat → Int32} {mct mtd : Nat → Int64} {mru mwh mwe mwt mbf mbh mtx : Nat → Int32} (hR : Rel n k m u pa ri ps tp tt tb th un PR HC EN MK RU LT CT mtr men mmk mpr mhp mct mtd mru mwh mwe mwt mbf mbh mtx) {j : Nat} (hj : j < k) (fu : Nat) (z t o f : Int32) : ∀ g r a : Nat, r ≤ m → m < g + r → a ≤ r → ∃ x, f_Rt_countBranches_L4 fu (nI m) th g (PR j) (nI a) (nI r) = some x ∧ f_Md_branch_L5 fu z (nI n) (nI k) (nI m) (nI u) t o f mpr mwh mbh g (nI j) (-1) (nI a) (nI r) = some x := by
  have hR0 := hR
  obtain ⟨⟨n1, n81, k8, m6, u1⟩, hT, hps, hP, hRw, hF, hU⟩ := hR
  intro g
  induction g with
  | zero => intro r a h1 h2; omega
  | succ g ih =>
    intro r a h1 h2 h3
    show ∃ x, fb_Rt_countBranches_L4 fu (nI m) th (f_Rt_countBranches_L4 fu (nI m) th g) (PR j) (nI a) (nI r) = some x ∧ fb_Md_branch_L5 fu z (nI n) (nI k) (nI m) (nI u) t o f mpr mwh mbh (f_Md_branch_L5 fu z (nI n) (nI k) (nI m) (nI u) t o f mpr mwh mbh g) (nI j) (-1) (nI a) (nI r) = some x
    unfold fb_Rt_countBranches_L4 fb_Md_branch_L5
    by_cases hrm : r = m
    · subst hrm
      rw [if_pos (nI_le (Nat.le_refl _) (by omega)), if_pos (nI_le (Nat.le_refl _) (by omega)), if_neg (by decide)]
      exact ⟨_, rfl, rfl⟩
    · have hlt : r < m := by omega
      have h6 : inB (nI r) 600 := in_nI (by omega) (by decide)
      have h8 : inB (nI j) 8 := in_nI (by omega) (by decide)
      have hb := br_iff hR0 hj hlt
      rw [if_neg (nI_ge hlt (by omega)), if_neg (nI_ge hlt (by omega)), if_pos h6, if_pos h6, if_pos h6, if_pos h8]
      simp only [nI_clamp (show r < 2 ^ 31 by omega), nI_clamp (show j < 2 ^ 31 by omega), nI_1]
      by_cases hc : th r = PR j
      · obtain ⟨c1, c2⟩ := hb.mp hc
        rw [if_pos hc, if_pos c1, if_pos c2, if_neg (nI_m1 (by omega))]
        exact ih (r + 1) (a + 1) (by omega) (by omega) (by omega)
      · rw [if_neg hc]
        by_cases c1 : mwh r = nI j
        · rw [if_pos c1, if_neg (fun c2 => hc (hb.mpr ⟨c1, c2⟩))]
          exact ih (r + 1) a (by omega) (by omega) (by omega)
        · rw [if_neg c1]
          exact ih (r + 1) a (by omega) (by omega) (by omega)
theorem R_branches {n k m u : Nat} {pa : Nat → Nat → Nat} {ri : Nat → Int32} {ps : Nat → Option Nat} {tp tt tb th un : Nat → Int32} {PR HC : Nat → Int32} {EN MK : Nat → Nat → Int32} {RU : Nat → Int32} {LT CT : Nat → Int64} {mtr men mmk mpr mhp : Nat → Int32} {mct mtd : Nat → Int64} {mru mwh mwe mwt mbf mbh mtx : Nat → Int32} (hR : Rel n k m u pa ri ps tp tt tb th un PR HC EN MK RU LT CT mtr men mmk mpr mhp mct mtd mru mwh mwe mwt mbf mbh mtx) {j : Nat} (hj : j < k) {fu : Nat} (hfu : 1000 ≤ fu) (uc a t o f : Int32) : ∃ r, f_PS_branches fu (nI j) (nI n) (nI k) uc ps (nI m) th (nI j) (PR j) (HC j) = some r ∧ f_Md_branches fu (nI j) a (nI n) (nI k) (nI m) (nI u) t o f mpr mwh mbh = some (r, 0) := by
  obtain ⟨x, h1, h2⟩ := br_count hR hj fu 0 t o f fu 0 0 (by omega) (by have := hR.1; omega) (by omega)
  unfold f_PS_branches f_Md_branches f_Rt_countBranches f_Md_branch
  rw [mpers_y _ _ _ _ _ _ _ hj hR.1.2.2.1, obS, it1]
  refine ⟨x, ?_, ?_⟩
  · show Option.bind (f_Rt_countBranches_L4 fu (nI m) th fu (PR j) (nI 0) (nI 0)) _ = _
    rw [h1]; rfl
  · show Option.bind (f_Md_branch_L5 fu 0 (nI n) (nI k) (nI m) (nI u) t o f mpr mwh mbh fu (nI j) (-1) (nI 0) (nI 0)) _ = _
    rw [h2]; rfl
theorem br_find {n k m u : Nat} {pa : Nat → Nat → Nat} {ri : Nat → Int32} {ps : Nat → Option Nat} {tp tt tb th un : Nat → Int32} {PR HC : Nat → Int32} {EN MK : Nat → Nat → Int32} {RU : Nat → Int32} {LT CT : Nat → Int64} {mtr men mmk mpr mhp : Nat → Int32} {mct mtd : Nat → Int64} {mru mwh mwe mwt mbf mbh mtx : Nat → Int32} (hR : Rel n k m u pa ri ps tp tt tb th un PR HC EN MK RU LT CT mtr men mmk mpr mhp mct mtd mru mwh mwe mwt mbf mbh mtx) {j : Nat} (hj : j < k) (fu : Nat) (z t o f q : Int32) (hq : ¬ q < 0) : ∀ g r a : Nat, r ≤ m → m < g + r → a ≤ r → ∃ x, f_Rt_findBranch_L5 fu (nI m) th g (PR j) q (nI a) (nI r) = some x ∧ f_Md_branch_L5 fu z (nI n) (nI k) (nI m) (nI u) t o f mpr mwh mbh g (nI j) q (nI a) (nI r) = some x ∧ (x = -1 ∨ ∃ s, s < m ∧ x = nI s ∧ mwh s = nI j) := by
  have hR0 := hR
  obtain ⟨⟨n1, n81, k8, m6, u1⟩, hT, hps, hP, hRw, hF, hU⟩ := hR
  intro g
  induction g with
  | zero => intro r a h1 h2; omega
  | succ g ih =>
    intro r a h1 h2 h3
    show ∃ x, fb_Rt_findBranch_L5 fu (nI m) th (f_Rt_findBranch_L5 fu (nI m) th g) (PR j) q (nI a) (nI r) = some x ∧ fb_Md_branch_L5 fu z (nI n) (nI k) (nI m) (nI u) t o f mpr mwh mbh (f_Md_branch_L5 fu z (nI n) (nI k) (nI m) (nI u) t o f mpr mwh mbh g) (nI j) q (nI a) (nI r) = some x ∧ _
    unfold fb_Rt_findBranch_L5 fb_Md_branch_L5
    by_cases hrm : r = m
    · subst hrm
      have hq0 : 0 ≤ q := by rw [← Int32.not_lt]; exact hq
      rw [if_pos (nI_le (Nat.le_refl _) (by omega)), if_pos (nI_le (Nat.le_refl _) (by omega)), if_pos hq0]
      exact ⟨_, rfl, rfl, Or.inl rfl⟩
    · have hlt : r < m := by omega
      have h6 : inB (nI r) 600 := in_nI (by omega) (by decide)
      have h8 : inB (nI j) 8 := in_nI (by omega) (by decide)
      have hb := br_iff hR0 hj hlt
      rw [if_neg (nI_ge hlt (by omega)), if_neg (nI_ge hlt (by omega)), if_pos h6, if_pos h6, if_pos h6, if_pos h8]
      simp only [nI_clamp (show r < 2 ^ 31 by omega), nI_clamp (show j < 2 ^ 31 by omega), nI_1]
      by_cases hc : th r = PR j
      · obtain ⟨c1, c2⟩ := hb.mp hc
        rw [if_pos hc, if_pos c1, if_pos c2]
        by_cases ha : nI a = q
        · rw [if_pos ha, if_pos ha]
          exact ⟨_, rfl, rfl, Or.inr ⟨r, hlt, rfl, c1⟩⟩
        · rw [if_neg ha, if_neg ha]
          exact ih (r + 1) (a + 1) (by omega) (by omega) (by omega)
      · rw [if_neg hc]
        by_cases c1 : mwh r = nI j
        · rw [if_pos c1, if_neg (fun c2 => hc (hb.mpr ⟨c1, c2⟩))]
          exact ih (r + 1) a (by omega) (by omega) (by omega)
        · rw [if_neg c1]
          exact ih (r + 1) a (by omega) (by omega) (by omega)
theorem br_neg {m : Nat} (m6 : m ≤ 600) (fu : Nat) (th : Nat → Int32) (p q : Int32) (hq : q < 0) : ∀ g r a : Nat, r ≤ m → m < g + r → a ≤ r → f_Rt_findBranch_L5 fu (nI m) th g p q (nI a) (nI r) = some (-1) := by
  intro g
  induction g with
  | zero => intro r a h1 h2; omega
  | succ g ih =>
    intro r a h1 h2 h3
    show fb_Rt_findBranch_L5 fu (nI m) th (f_Rt_findBranch_L5 fu (nI m) th g) p q (nI a) (nI r) = some (-1)
    unfold fb_Rt_findBranch_L5
    by_cases hrm : r = m
    · subst hrm
      rw [if_pos (nI_le (Nat.le_refl _) (by omega))]
    · have hlt : r < m := by omega
      rw [if_neg (nI_ge hlt (by omega)), if_pos (in_nI (show r < 600 by omega) (by decide))]
      simp only [nI_1]
      have ha : ¬ nI a = q := fun e => by rw [← e] at hq; exact nI_pos (by omega) hq
      by_cases hc : th (nI r).toNatClampNeg = p
      · rw [if_pos hc, if_neg ha]
        exact ih (r + 1) (a + 1) (by omega) (by omega) (by omega)
      · rw [if_neg hc]
        exact ih (r + 1) a (by omega) (by omega) (by omega)
theorem R_redo {n k m u : Nat} {pa : Nat → Nat → Nat} {ri : Nat → Int32} {ps : Nat → Option Nat} {tp tt tb th un : Nat → Int32} {PR HC : Nat → Int32} {EN MK : Nat → Nat → Int32} {RU : Nat → Int32} {LT CT : Nat → Int64} {mtr men mmk mpr mhp : Nat → Int32} {mct mtd : Nat → Int64} {mru mwh mwe mwt mbf mbh mtx : Nat → Int32} (hR : Rel n k m u pa ri ps tp tt tb th un PR HC EN MK RU LT CT mtr men mmk mpr mhp mct mtd mru mwh mwe mwt mbf mbh mtx) {j : Nat} (hj : j < k) {fu : Nat} (hfu : 1000 ≤ fu) (q uc a t o f : Int32) : ∃ (r : Int32) (pr' : Int32) (en' mk' men' mmk' mpr' : Nat → Int32), f_PS_redo fu n (nI j) q (nI n) (nI k) uc ps (nI m) tp tt th (nI j) (PR j) (HC j) (EN j) (MK j) = some (r, pr', en', mk') ∧ f_Md_redo fu (nI j) q a (nI n) (nI k) (nI m) (nI u) t o f men mmk mpr mwh mwe mwt mbh = some (r, 0, men', mmk', mpr') ∧ Rel n k m u pa ri ps tp tt tb th un (va_up PR j pr') HC (va_up EN j en') (va_up MK j mk') RU LT CT mtr men' mmk' mpr' mhp mct mtd mru mwh mwe mwt mbf mbh mtx := by
  have hR0 := hR
  obtain ⟨⟨n1, n81, k8, m6, u1⟩, hT, hps, hP, hRw, hF, hU⟩ := hR
  unfold f_PS_redo f_Md_redo f_Rt_findBranch f_Md_branch
  rw [mpers_y _ _ _ _ _ _ _ hj k8, obS, it1]
  by_cases hq : q < 0
  · refine ⟨-1, _, _, _, men, mmk, mpr, ?_, ?_, Rel_id hR0 j⟩
    · rw [show f_Rt_findBranch_L5 fu (nI m) th fu (PR j) q 0 0 = some (-1) from br_neg m6 fu th (PR j) q hq fu 0 0 (by omega) (by omega) (by omega), obS, holds_n (by decide), obS, it0]
    · rw [if_pos hq, if_neg (by decide)]
  · obtain ⟨x, h1, h2, h3⟩ := br_find hR0 hj fu 0 t o f q hq fu 0 0 (by omega) (by omega) (by omega)
    rw [show f_Rt_findBranch_L5 fu (nI m) th fu (PR j) q 0 0 = some x from h1, obS, if_neg hq, show f_Md_branch_L5 fu 0 (nI n) (nI k) (nI m) (nI u) t o f mpr mwh mbh fu (nI j) q 0 0 = some x from h2, obS]
    rcases h3 with rfl | ⟨s, s1, rfl, s3⟩
    · refine ⟨-1, _, _, _, men, mmk, mpr, ?_, ?_, Rel_id hR0 j⟩
      · rw [holds_n (by decide), obS, it0]
      · rw [if_neg (by decide)]
    · obtain ⟨e1, e2, ⟨c, hc, e3⟩, ⟨d, d1, d2, d3, e4⟩, e5⟩ := hRw s s1
      have h6 : inB (nI s) 600 := in_nI (by omega) (by decide)
      rw [holds_y s1 m6, obS, it1, if_pos h6, if_pos h6, if_pos (nI_pos' (by omega)), if_pos h6, if_pos h6]
      simp only [nI_clamp (show s < 2 ^ 31 by omega), nI_clamp (show j < 2 ^ 31 by omega), e1, e2, e3, e4]
      rw [put_eq _ _ hc n81 d1, obS, act_eq _ _ _ _ _ _ _ _ _ _ (by omega) (by omega) d1, obS, if_pos (in_nI (show j < 8 by omega) (by decide))]
      exact ⟨_, _, _, _, _, _, _, rfl, rfl, Rel_move hR0 hj hc (d := d) d1 d2 (rt_n (by omega)).symm (Or.inr ⟨s, s1, rfl, s3⟩)⟩
theorem nI_le0 {d : Nat} (h : d < 2 ^ 31) : nI d ≤ 0 ↔ d = 0 := by
  rw [show (0 : Int32) = nI 0 from rfl, nI_leI h (by decide)]; omega
theorem nI_eq0 {d : Nat} (h : d < 2 ^ 31) : nI d = 0 ↔ d = 0 := by
  rw [show (0 : Int32) = nI 0 from rfl, nI_eq h (by decide)]
theorem wr_loop {n k m u : Nat} {pa : Nat → Nat → Nat} {ri : Nat → Int32} {ps : Nat → Option Nat} {tp tt tb th un : Nat → Int32} {PR HC : Nat → Int32} {EN MK : Nat → Nat → Int32} {RU : Nat → Int32} {LT CT : Nat → Int64} {mtr men mmk mpr mhp : Nat → Int32} {mct mtd : Nat → Int64} {mru mwh mwe mwt mbf mbh mtx : Nat → Int32} (hR : Rel n k m u pa ri ps tp tt tb th un PR HC EN MK RU LT CT mtr men mmk mpr mhp mct mtd mru mwh mwe mwt mbf mbh mtx) {j : Nat} (hj : j < k) (fu : Nat) (uc t o f : Int32) (px py : Int32) : ∀ g c : Nat, ∀ a : Int32, c ≤ n → n < g + c → ∃ x, f_PS_wrong_L17 fu n (nI n) (nI k) uc ri ps (nI j) (PR j) (HC j) (EN j) g px a (nI c) = some x ∧ f_Md_wrong_L19 fu (nI n) (nI k) (nI m) (nI u) t o f mtr men g (nI j) a (nI c) 0 = some (x, 0) := by
  have hR0 := hR
  obtain ⟨⟨n1, n81, k8, m6, u1⟩, hT, hps, hP, hRw, hF, hU⟩ := hR
  intro g
  induction g with
  | zero => intro c a h1 h2; omega
  | succ g ih =>
    intro c a h1 h2
    show ∃ x, fb_PS_wrong_L17 fu n (nI n) (nI k) uc ri ps (nI j) (PR j) (HC j) (EN j) (f_PS_wrong_L17 fu n (nI n) (nI k) uc ri ps (nI j) (PR j) (HC j) (EN j) g) px a (nI c) = some x ∧ fb_Md_wrong_L19 fu (nI n) (nI k) (nI m) (nI u) t o f mtr men (f_Md_wrong_L19 fu (nI n) (nI k) (nI m) (nI u) t o f mtr men g) (nI j) a (nI c) 0 = some (x, 0)
    unfold fb_PS_wrong_L17 fb_Md_wrong_L19
    by_cases hcn : c = n
    · subst hcn
      rw [if_pos (nI_le (Nat.le_refl _) (by omega)), if_pos (nI_le (Nat.le_refl _) (by omega))]
      exact ⟨_, rfl, rfl⟩
    · have hlt : c < n := by omega
      have i1 : inB (nI c) n := in_nI hlt (by omega)
      have i2 : inB (nI c) 81 := in_nI (by omega) (by decide)
      rw [if_neg (nI_ge hlt (by omega)), if_neg (nI_ge hlt (by omega)), if_pos i1, if_pos i1, k81, if_pos (in_nI (show 81 * j + c < 648 by omega) (by decide)), if_pos i2, if_pos i2]
      simp only [nI_clamp (show c < 2 ^ 31 by omega), nI_clamp (show 81 * j + c < 2 ^ 31 by omega), nI_1]
      obtain ⟨e1, ⟨d, hd, e2⟩, -⟩ := (hP j hj).1 c hlt
      obtain ⟨t1, ⟨w, hw, t2⟩⟩ := hT c hlt
      rw [t1, e1, e2, t2]
      unfold f_PS_isWrong
      have z0 : a + (0 : Int32) = a := by rw [Int32.add_zero]
      rw [z0]
      simp only [nI_le0 (show d < 2 ^ 31 by omega), nI_le0 (show w < 2 ^ 31 by omega), nI_eq0 (show d < 2 ^ 31 by omega), nI_eq0 (show w < 2 ^ 31 by omega), nI_eq (show d < 2 ^ 31 by omega) (show w < 2 ^ 31 by omega)]
      by_cases hw0 : w = 0
      · rw [if_pos hw0, obS, it0]
        by_cases hd0 : d = 0
        · rw [if_pos hd0]; exact ih (c + 1) a (by omega) (by omega)
        · rw [if_neg hd0, if_pos hw0]; exact ih (c + 1) a (by omega) (by omega)
      · rw [if_neg hw0]
        by_cases hd0 : d = 0
        · rw [if_pos hd0, obS, it0, if_pos hd0]; exact ih (c + 1) a (by omega) (by omega)
        · rw [if_neg hd0, if_neg hd0, if_neg hw0]
          by_cases hdw : d = w
          · rw [if_pos hdw, obS, it0, if_pos hdw]; exact ih (c + 1) a (by omega) (by omega)
          · rw [if_neg hdw, obS, it1, if_neg hdw]; exact ih (c + 1) (a + 1) (by omega) (by omega)
theorem R_wrong {n k m u : Nat} {pa : Nat → Nat → Nat} {ri : Nat → Int32} {ps : Nat → Option Nat} {tp tt tb th un : Nat → Int32} {PR HC : Nat → Int32} {EN MK : Nat → Nat → Int32} {RU : Nat → Int32} {LT CT : Nat → Int64} {mtr men mmk mpr mhp : Nat → Int32} {mct mtd : Nat → Int64} {mru mwh mwe mwt mbf mbh mtx : Nat → Int32} (hR : Rel n k m u pa ri ps tp tt tb th un PR HC EN MK RU LT CT mtr men mmk mpr mhp mct mtd mru mwh mwe mwt mbf mbh mtx) {j : Nat} (hj : j < k) {fu : Nat} (hfu : 1000 ≤ fu) (uc a t o f : Int32) : ∃ r, f_PS_wrong fu n (nI j) (nI n) (nI k) uc ri ps (nI j) (PR j) (HC j) (EN j) = some r ∧ f_Md_wrong fu (nI j) a (nI n) (nI k) (nI m) (nI u) t o f mtr men = some (r, 0) := by
  obtain ⟨x, h1, h2⟩ := wr_loop hR hj fu uc t o f (nI j) 0 fu 0 0 (by omega) (by have := hR.1; omega)
  unfold f_PS_wrong f_Md_wrong
  rw [mpers_y _ _ _ _ _ _ _ hj hR.1.2.2.1, obS, it1]
  exact ⟨x, h1, h2⟩
theorem Rel_hc {n k m u : Nat} {pa : Nat → Nat → Nat} {ri : Nat → Int32} {ps : Nat → Option Nat} {tp tt tb th un : Nat → Int32} {PR HC : Nat → Int32} {EN MK : Nat → Nat → Int32} {RU : Nat → Int32} {LT CT : Nat → Int64} {mtr men mmk mpr mhp : Nat → Int32} {mct mtd : Nat → Int64} {mru mwh mwe mwt mbf mbh mtx : Nat → Int32} (hR : Rel n k m u pa ri ps tp tt tb th un PR HC EN MK RU LT CT mtr men mmk mpr mhp mct mtd mru mwh mwe mwt mbf mbh mtx) {j : Nat} (hj : j < k) : Rel n k m u pa ri ps tp tt tb th un PR (va_up HC j (HC j + 1)) EN MK RU LT CT mtr men mmk mpr (upd mhp j (mhp j + 1)) mct mtd mru mwh mwe mwt mbf mbh mtx := by
  obtain ⟨b, hT, hps, hP, hRw, hF, hU⟩ := hR
  refine ⟨b, hT, hps, fun i hi => ?_, hRw, fun i h1 h2 => ?_, hU⟩
  · obtain ⟨q1, q2, q3⟩ := hP i hi
    by_cases hij : i = j
    · subst hij; rw [va_up_self, pk_us]; exact ⟨q1, by rw [q2], q3⟩
    · rw [va_up_ne _ _ hij, pk_un hij]; exact ⟨q1, q2, q3⟩
  · rw [pk_un (show i ≠ j by omega)]; exact hF i h1 h2
theorem help_loop {n k m u : Nat} {pa : Nat → Nat → Nat} {ri : Nat → Int32} {ps : Nat → Option Nat} {tp tt tb th un : Nat → Int32} {PR HC : Nat → Int32} {EN MK : Nat → Nat → Int32} {RU : Nat → Int32} {LT CT : Nat → Int64} {mtr men mmk mpr mhp : Nat → Int32} {mct mtd : Nat → Int64} {mru mwh mwe mwt mbf mbh mtx : Nat → Int32} (hR : Rel n k m u pa ri ps tp tt tb th un PR HC EN MK RU LT CT mtr men mmk mpr mhp mct mtd mru mwh mwe mwt mbf mbh mtx) {j : Nat} (hj : j < k) (fu : Nat) (uc t o f : Int32) : ∀ g c : Nat, c ≤ n → n < g + c →
    (f_PS_findPlaceToHelp_L2 fu n (nI n) (nI k) uc ri (EN j) g (nI c) = some (-1) ∧ f_Md_help_L27 fu (nI n) (nI k) (nI u) t o f mtr g (nI j) (nI c) 0 (nI m) men mmk mpr mhp mwh mwe mwt mbf mbh = some (-1, 0, nI m, men, mmk, mpr, mhp, mwh, mwe, mwt, mbf, mbh)) ∨
    ∃ i d : Nat, i < n ∧ 1 ≤ d ∧ d ≤ 9 ∧ mtr i = nI d ∧ EN j i = 0 ∧ f_PS_findPlaceToHelp_L2 fu n (nI n) (nI k) uc ri (EN j) g (nI c) = some (nI i) ∧ (m < 600 → f_Md_help_L27 fu (nI n) (nI k) (nI u) t o f mtr g (nI j) (nI c) 0 (nI m) men mmk mpr mhp mwh mwe mwt mbf mbh = some (nI i, 0, nI (m + 1), pE d men (81 * j + i), pM d mmk (81 * j + i), upd mpr j (nI m), upd mhp j (mhp j + 1), upd mwh m (nI j), upd mwe m (nI i), upd mwt m (nI d), upd mbf m (men (81 * j + i)), upd mbh m (mpr j))) := by
  have hR0 := hR
  obtain ⟨⟨n1, n81, k8, m6, u1⟩, hT, hps, hP, hRw, hF, hU⟩ := hR
  intro g
  induction g with
  | zero => intro c h1 h2; omega
  | succ g ih =>
    intro c h1 h2
    have e1 : ∀ x, f_PS_findPlaceToHelp_L2 fu n (nI n) (nI k) uc ri (EN j) (g + 1) x = fb_PS_findPlaceToHelp_L2 fu n (nI n) (nI k) uc ri (EN j) (f_PS_findPlaceToHelp_L2 fu n (nI n) (nI k) uc ri (EN j) g) x := fun _ => rfl
    have e2 : f_Md_help_L27 fu (nI n) (nI k) (nI u) t o f mtr (g + 1) (nI j) (nI c) 0 (nI m) men mmk mpr mhp mwh mwe mwt mbf mbh = fb_Md_help_L27 fu (nI n) (nI k) (nI u) t o f mtr (f_Md_help_L27 fu (nI n) (nI k) (nI u) t o f mtr g) (nI j) (nI c) 0 (nI m) men mmk mpr mhp mwh mwe mwt mbf mbh := rfl
    rw [e1, e2]
    unfold fb_PS_findPlaceToHelp_L2 fb_Md_help_L27
    by_cases hcn : c = n
    · subst hcn
      rw [if_pos (nI_le (Nat.le_refl _) (by omega)), if_pos (nI_le (Nat.le_refl _) (by omega)), if_pos rfl]
      exact Or.inl ⟨rfl, rfl⟩
    · have hlt : c < n := by omega
      have i1 : inB (nI c) n := in_nI hlt (by omega)
      have i2 : inB (nI c) 81 := in_nI (by omega) (by decide)
      have i8 : inB (nI j) 8 := in_nI (by omega) (by decide)
      have ic : ¬ nI c = nI n := fun e => hcn (nI_inj (by omega) (by omega) e)
      have i6 : inB (nI (81 * j + c)) 648 := in_nI (by omega) (by decide)
      rw [if_neg (nI_ge hlt (by omega)), if_neg (nI_ge hlt (by omega))]
      simp only [if_pos i1, if_pos i2, if_neg ic, k81, if_pos i6, if_pos i8, nI_clamp (show c < 2 ^ 31 by omega), nI_clamp (show j < 2 ^ 31 by omega), nI_clamp (show 81 * j + c < 2 ^ 31 by omega), nI_1]
      obtain ⟨a1, ⟨d, hd, a2⟩, -⟩ := (hP j hj).1 c hlt
      obtain ⟨t1, ⟨w, hw, t2⟩⟩ := hT c hlt
      have a3 : EN j c = nI d := by rw [a1, a2]
      rw [t1, t2, a2, a3]
      simp only [nI_le0 (show d < 2 ^ 31 by omega), nI_eq0 (show d < 2 ^ 31 by omega), nI_eq0 (show w < 2 ^ 31 by omega)]
      by_cases hw0 : w = 0
      · rw [if_pos hw0, if_pos hw0]
        by_cases hd0 : d = 0
        · rw [if_pos hd0]; exact ih (c + 1) (by omega) (by omega)
        · rw [if_neg hd0]; exact ih (c + 1) (by omega) (by omega)
      · rw [if_neg hw0, if_neg hw0]
        by_cases hd0 : d = 0
        · rw [if_pos hd0, if_pos hd0]
          refine Or.inr ⟨c, w, hlt, by omega, hw, t2, by rw [a3, hd0]; rfl, rfl, fun hm => ?_⟩
          rw [addRow_eq _ _ _ _ _ _ _ _ _ _ _ _ _ _ _ (by omega) (by omega) (by omega) hm, obS]
        · rw [if_neg hd0, if_neg hd0]; exact ih (c + 1) (by omega) (by omega)
theorem R_help {n k m u : Nat} {pa : Nat → Nat → Nat} {ri : Nat → Int32} {ps : Nat → Option Nat} {tp tt tb th un : Nat → Int32} {PR HC : Nat → Int32} {EN MK : Nat → Nat → Int32} {RU : Nat → Int32} {LT CT : Nat → Int64} {mtr men mmk mpr mhp : Nat → Int32} {mct mtd : Nat → Int64} {mru mwh mwe mwt mbf mbh mtx : Nat → Int32} (hR : Rel n k m u pa ri ps tp tt tb th un PR HC EN MK RU LT CT mtr men mmk mpr mhp mct mtd mru mwh mwe mwt mbf mbh mtx) {j : Nat} (hj : j < k) {fu : Nat} (hfu : 1000 ≤ fu) (uc a t o f : Int32) : ∃ (r : Int32) (m' : Nat) (tp' tt' tb' th' : Nat → Int32) (pr' hc' : Int32) (en' mk' men' mmk' mpr' mhp' mwh' mwe' mwt' mbf' mbh' : Nat → Int32), f_PS_help fu n (nI j) (nI n) (nI k) uc ri ps (nI m) tp tt tb th (nI j) (PR j) (HC j) (EN j) (MK j) = some (r, nI m', tp', tt', tb', th', pr', hc', en', mk') ∧ f_Md_help fu (nI j) a (nI n) (nI k) (nI m) (nI u) t o f mtr men mmk mpr mhp mwh mwe mwt mbf mbh = some (r, 0, nI m', men', mmk', mpr', mhp', mwh', mwe', mwt', mbf', mbh') ∧ Rel n k m' u pa ri ps tp' tt' tb' th' un (va_up PR j pr') (va_up HC j hc') (va_up EN j en') (va_up MK j mk') RU LT CT mtr men' mmk' mpr' mhp' mct mtd mru mwh' mwe' mwt' mbf' mbh' mtx := by
  have hR0 := hR
  obtain ⟨⟨n1, n81, k8, m6, u1⟩, hT, hps, hP, hRw, hF, hU⟩ := hR
  have same : Rel n k m u pa ri ps tp tt tb th un (va_up PR j (PR j)) (va_up HC j (HC j)) (va_up EN j (EN j)) (va_up MK j (MK j)) RU LT CT mtr men mmk mpr mhp mct mtd mru mwh mwe mwt mbf mbh mtx := by
    rw [va_up_id HC]; exact Rel_id hR0 j
  unfold f_PS_help f_Md_help f_PS_findPlaceToHelp
  rw [mpers_y _ _ _ _ _ _ _ hj k8, obS, it1]
  rcases help_loop hR0 hj fu uc t o f fu 0 (by omega) (by omega) with ⟨h1, h2⟩ | ⟨i, d, hi, d1, d9, hd, he, h1, h2⟩
  · refine ⟨-1, m, tp, tt, tb, th, _, _, _, _, men, mmk, mpr, mhp, mwh, mwe, mwt, mbf, mbh, ?_, ?_, same⟩
    · rw [show f_PS_findPlaceToHelp_L2 fu n (nI n) (nI k) uc ri (EN j) fu 0 = some (-1) from h1, obS, place_n _ _ (Or.inl (by decide)), obS, it0]
    · by_cases h6 : m = 600
      · rw [if_pos ((m600 m6).mpr h6)]
      · rw [if_neg (fun e => h6 ((m600 m6).mp e))]; exact h2
  · rw [show f_PS_findPlaceToHelp_L2 fu n (nI n) (nI k) uc ri (EN j) fu 0 = some (nI i) from h1, obS, place_y _ _ hi n81, obS, it1, if_pos (in_nI hi (by omega)), nI_clamp (show i < 2 ^ 31 by omega), (hT i hi).1, hd]
    rcases R_tell hR0 hj hi (d := d) (by omega) (by omega) (by omega) uc with ⟨g1, g2⟩ | ⟨⟨g1, g3⟩, g2⟩
    · have h6 : m = 600 := by
        refine g1.resolve_left (fun e => ?_)
        rw [asI_lt (by omega), he] at e
        exact absurd ((nI_eq0 (by omega)).mp e.symm) (by omega)
      refine ⟨-1, m, tp, tt, tb, th, _, _, _, _, men, mmk, mpr, mhp, mwh, mwe, mwt, mbf, mbh, ?_, ?_, same⟩
      · rw [g2, obS]; exact if_pos rfl
      · rw [if_pos ((m600 m6).mpr h6)]
    · refine ⟨nI i, m + 1, _, _, _, _, _, _, _, _, _, _, _, _, _, _, _, _, _, ?_, ?_, Rel_hc (Rel_row hR0 hj hi (d := d) (by omega) (by omega) (by omega) g1 g3) hj⟩
      · rw [g2, obS]; exact if_neg (nI_m1 (by omega))
      · rw [if_neg (fun e => by have := (m600 m6).mp e; omega)]; exact h2 g3
