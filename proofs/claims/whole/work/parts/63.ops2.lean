/-! enter, mark, undo, truth, unit, timer, time -/
theorem va_up_id {α : Type} (f : Nat → α) (j : Nat) : va_up f j (f j) = f := by
  funext i
  by_cases h : i = j
  · subst h; exact va_up_self _ _ _
  · exact va_up_ne _ _ h
theorem upd_id (f : Nat → Int32) (j : Nat) : upd f j (f j) = f := by
  funext i
  by_cases h : i = j
  · subst h; exact pk_us
  · exact pk_un h
theorem asI_lt {d : Nat} {e x : Int32} (h : d < 10) : asI d e x = e := if_pos h
theorem Rel_id {n k m u : Nat} {pa : Nat → Nat → Nat} {ri : Nat → Int32} {ps : Nat → Option Nat} {tp tt tb th un : Nat → Int32} {PR HC : Nat → Int32} {EN MK : Nat → Nat → Int32} {RU : Nat → Int32} {LT CT : Nat → Int64} {mtr men mmk mpr mhp : Nat → Int32} {mct mtd : Nat → Int64} {mru mwh mwe mwt mbf mbh mtx : Nat → Int32} (hR : Rel n k m u pa ri ps tp tt tb th un PR HC EN MK RU LT CT mtr men mmk mpr mhp mct mtd mru mwh mwe mwt mbf mbh mtx) (j : Nat) : Rel n k m u pa ri ps tp tt tb th un (va_up PR j (PR j)) HC (va_up EN j (EN j)) (va_up MK j (MK j)) RU LT CT mtr men mmk mpr mhp mct mtd mru mwh mwe mwt mbf mbh mtx := by
  rw [va_up_id, va_up_id, va_up_id]
  exact hR
theorem R_enter {n k m u : Nat} {pa : Nat → Nat → Nat} {ri : Nat → Int32} {ps : Nat → Option Nat} {tp tt tb th un : Nat → Int32} {PR HC : Nat → Int32} {EN MK : Nat → Nat → Int32} {RU : Nat → Int32} {LT CT : Nat → Int64} {mtr men mmk mpr mhp : Nat → Int32} {mct mtd : Nat → Int64} {mru mwh mwe mwt mbf mbh mtx : Nat → Int32} (hR : Rel n k m u pa ri ps tp tt tb th un PR HC EN MK RU LT CT mtr men mmk mpr mhp mct mtd mru mwh mwe mwt mbf mbh mtx) {j : Nat} (hj : j < k) (c v uc a t o f : Int32) : ∃ (r : Int32) (m' : Nat) (tp' tt' tb' th' : Nat → Int32) (pr' : Int32) (en' mk' men' mmk' mpr' mwh' mwe' mwt' mbf' mbh' : Nat → Int32), f_PS_enter n (nI j) c v (nI n) (nI k) uc ps (nI m) tp tt tb th (nI j) (PR j) (HC j) (EN j) (MK j) = some (r, nI m', tp', tt', tb', th', pr', en', mk') ∧ f_Md_enter (nI j) c v a (nI n) (nI k) (nI m) (nI u) t o f men mmk mpr mwh mwe mwt mbf mbh = some (r, 0, nI m', men', mmk', mpr', mwh', mwe', mwt', mbf', mbh') ∧ Rel n k m' u pa ri ps tp' tt' tb' th' un (va_up PR j pr') HC (va_up EN j en') (va_up MK j mk') RU LT CT mtr men' mmk' mpr' mhp mct mtd mru mwh' mwe' mwt' mbf' mbh' mtx := by
  have hR0 := hR
  obtain ⟨⟨n1, n81, k8, m6, u1⟩, hT, hps, hP, hRw, hF, hU⟩ := hR
  have same := Rel_id hR0 j
  unfold f_PS_enter f_Md_enter
  rw [mpers_y _ _ _ _ _ _ _ hj k8, obS, it1]
  rcases ix_or c (n := n) (by omega) with hc | ⟨i, hi, rfl⟩
  · refine ⟨-1, m, tp, tt, tb, th, _, _, _, men, mmk, mpr, mwh, mwe, mwt, mbf, mbh, ?_, ?_, same⟩
    · rw [place_n _ _ hc, obS, it0]
    · rw [mplace_n _ _ _ _ _ _ _ hc, obS, it0]
  · rw [place_y _ _ hi n81, obS, it1, mplace_y _ _ _ _ _ _ _ hi n81, obS, it1]
    rcases v09 v with hv | ⟨d, hd, rfl⟩
    · refine ⟨-1, m, tp, tt, tb, th, _, _, _, men, mmk, mpr, mwh, mwe, mwt, mbf, mbh, ?_, ?_, same⟩
      · rw [z09_n hv, obS, it0]
      · by_cases h1 : v < 0
        · rw [if_pos h1]
        · rw [if_neg h1, if_pos (hv.resolve_left h1)]
    · rw [z09_y hd, obS, it1, if_neg (nI_pos (by omega)), if_neg (n09 hd), k81]
      have he := ((hP j hj).1 i hi).1
      rcases R_tell hR0 hj hi (d := d) (by omega) (by omega) (by omega) uc with ⟨h1, h2⟩ | ⟨⟨h1, h3⟩, h2⟩
      · refine ⟨-1, m, tp, tt, tb, th, _, _, _, men, mmk, mpr, mwh, mwe, mwt, mbf, mbh, ?_, ?_, same⟩
        · rw [h2, obS]
        · by_cases h6 : m = 600
          · rw [if_pos ((m600 m6).mpr h6)]
          · rw [if_neg (fun e => h6 ((m600 m6).mp e)), if_pos (in_nI (by omega) (by decide)), nI_clamp (by omega)]
            rw [asI_lt (by omega), he] at h1
            rw [if_pos (h1.resolve_right h6)]
      · refine ⟨nI m, m + 1, _, _, _, _, _, _, _, _, _, _, _, _, _, _, _, ?_, ?_, Rel_row hR0 hj hi (d := d) (by omega) (by omega) (by omega) h1 h3⟩
        · rw [h2, obS]
        · rw [if_neg (fun e => by have := (m600 m6).mp e; omega), if_pos (in_nI (by omega) (by decide)), nI_clamp (by omega)]
          rw [asI_lt (by omega), he] at h1
          rw [if_neg h1, addRow_eq _ _ _ _ _ _ _ _ _ _ _ _ _ _ _ (by omega) (by omega) (by omega) h3, obS]
theorem R_mark {n k m u : Nat} {pa : Nat → Nat → Nat} {ri : Nat → Int32} {ps : Nat → Option Nat} {tp tt tb th un : Nat → Int32} {PR HC : Nat → Int32} {EN MK : Nat → Nat → Int32} {RU : Nat → Int32} {LT CT : Nat → Int64} {mtr men mmk mpr mhp : Nat → Int32} {mct mtd : Nat → Int64} {mru mwh mwe mwt mbf mbh mtx : Nat → Int32} (hR : Rel n k m u pa ri ps tp tt tb th un PR HC EN MK RU LT CT mtr men mmk mpr mhp mct mtd mru mwh mwe mwt mbf mbh mtx) {j : Nat} (hj : j < k) (c v on uc a t o f : Int32) (hon : on = 0 ∨ on = 1) : ∃ (r : Int32) (m' : Nat) (tp' tt' tb' th' : Nat → Int32) (pr' : Int32) (en' mk' men' mmk' mpr' mwh' mwe' mwt' mbf' mbh' : Nat → Int32), f_PS_mark n (nI j) c v on (nI n) (nI k) uc ps (nI m) tp tt tb th (nI j) (PR j) (HC j) (EN j) (MK j) = some (r, nI m', tp', tt', tb', th', pr', en', mk') ∧ f_Md_mark (nI j) c v on a (nI n) (nI k) (nI m) (nI u) t o f men mmk mpr mwh mwe mwt mbf mbh = some (r, 0, nI m', men', mmk', mpr', mwh', mwe', mwt', mbf', mbh') ∧ Rel n k m' u pa ri ps tp' tt' tb' th' un (va_up PR j pr') HC (va_up EN j en') (va_up MK j mk') RU LT CT mtr men' mmk' mpr' mhp mct mtd mru mwh' mwe' mwt' mbf' mbh' mtx := by
  have hR0 := hR
  obtain ⟨⟨n1, n81, k8, m6, u1⟩, hT, hps, hP, hRw, hF, hU⟩ := hR
  have same := Rel_id hR0 j
  unfold f_PS_mark f_Md_mark
  rw [mpers_y _ _ _ _ _ _ _ hj k8, obS, it1]
  rcases ix_or c (n := n) (by omega) with hc | ⟨i, hi, rfl⟩
  · refine ⟨-1, m, tp, tt, tb, th, _, _, _, men, mmk, mpr, mwh, mwe, mwt, mbf, mbh, ?_, ?_, same⟩
    · rw [place_n _ _ hc, obS, it0]
    · rw [mplace_n _ _ _ _ _ _ _ hc, obS, it0]
  · rw [place_y _ _ hi n81, obS, it1, mplace_y _ _ _ _ _ _ _ hi n81, obS, it1]
    rcases v19 v with hv | ⟨d, hd1, hd, rfl⟩
    · refine ⟨-1, m, tp, tt, tb, th, _, _, _, men, mmk, mpr, mwh, mwe, mwt, mbf, mbh, ?_, ?_, same⟩
      · rw [z19_n hv, obS, it0]
      · by_cases h1 : v < (1 : Int32)
        · rw [if_pos h1]
        · rw [if_neg h1, if_pos (hv.resolve_left h1)]
    · rw [z19_y hd1 hd, obS, it1, if_neg (n19 hd1 hd), if_neg (n09 hd), k81]
      have he := ((hP j hj).1 i hi).2.2.1
      have e20 : (20 : Int32) + nI d = nI (20 + d) := nI_add 20 d
      have e10 : (10 : Int32) + nI d = nI (10 + d) := nI_add 10 d
      have hb := mk_bit (x := MK j i) (v := d) (by omega)
      have hs := mk_shr (x := MK j i) (v := d) (by omega)
      rw [if_pos (in_nI (show 81 * j + i < 648 by omega) (by decide)), nI_clamp (show 81 * j + i < 2 ^ 31 by omega), ← he, e20, e10]
      rcases hon with rfl | rfl
      · rw [it0, it0, it0]
        have hx : asI (20 + d) (EN j i) (MK j i) = if MK j i &&& bit d = 0 then nI (20 + d) else nI (10 + d) := by
          unfold asI; rw [if_neg (by omega), if_neg (by omega), show 20 + d - 20 = d by omega, show 20 + d - 10 = 10 + d by omega]
        rcases R_tell hR0 hj hi (d := 20 + d) (by omega) (by omega) (by omega) uc with ⟨h1, h2⟩ | ⟨⟨h1, h3⟩, h2⟩
        · refine ⟨-1, m, tp, tt, tb, th, _, _, _, men, mmk, mpr, mwh, mwe, mwt, mbf, mbh, ?_, ?_, same⟩
          · rw [h2, obS]
          · by_cases h6 : m = 600
            · rw [if_pos ((m600 m6).mpr h6)]
            · have h1 := h1.resolve_right h6
              rw [if_neg (fun e => h6 ((m600 m6).mp e))]
              have hbit : bt (MK j i) d = false := by
                by_cases hz : MK j i &&& bit d = 0
                · exact hb.mp hz
                · rw [hx, if_neg hz] at h1; exact absurd (nI_inj (by omega) (by omega) h1) (by omega)
              rw [if_neg (fun e => by rw [hs.mp e] at hbit; cases hbit)]
        · refine ⟨nI m, m + 1, _, _, _, _, _, _, _, _, _, _, _, _, _, _, _, ?_, ?_, Rel_row hR0 hj hi (d := 20 + d) (by omega) (by omega) (by omega) h1 h3⟩
          · rw [h2, obS]
          · rw [if_neg (fun e => by have := (m600 m6).mp e; omega)]
            have hbit : bt (MK j i) d = true := by
              cases hz : bt (MK j i) d
              · rw [hx, if_pos (hb.mpr hz)] at h1; exact absurd rfl h1
              · rfl
            rw [if_pos (hs.mpr hbit), if_neg (by decide), addRow_eq _ _ _ _ _ _ _ _ _ _ _ _ _ _ _ (by omega) (by omega) (by omega) h3, obS]
      · simp only [it1]
        have hx : asI (10 + d) (EN j i) (MK j i) = if MK j i &&& bit d = 0 then nI (20 + d) else nI (10 + d) := by
          unfold asI; rw [if_neg (by omega), if_pos (by omega), show 10 + d - 10 = d by omega, show 10 + d + 10 = 20 + d by omega]
        rcases R_tell hR0 hj hi (d := 10 + d) (by omega) (by omega) (by omega) uc with ⟨h1, h2⟩ | ⟨⟨h1, h3⟩, h2⟩
        · refine ⟨-1, m, tp, tt, tb, th, _, _, _, men, mmk, mpr, mwh, mwe, mwt, mbf, mbh, ?_, ?_, same⟩
          · rw [h2, obS]
          · by_cases h6 : m = 600
            · rw [if_pos ((m600 m6).mpr h6)]
            · have h1 := h1.resolve_right h6
              rw [if_neg (fun e => h6 ((m600 m6).mp e))]
              have hbit : bt (MK j i) d = true := by
                cases hz : bt (MK j i) d
                · rw [hx, if_pos (hb.mpr hz)] at h1; exact absurd (nI_inj (by omega) (by omega) h1) (by omega)
                · rfl
              rw [if_pos (hs.mpr hbit), if_pos trivial]
        · refine ⟨nI m, m + 1, _, _, _, _, _, _, _, _, _, _, _, _, _, _, _, ?_, ?_, Rel_row hR0 hj hi (d := 10 + d) (by omega) (by omega) (by omega) h1 h3⟩
          · rw [h2, obS]
          · rw [if_neg (fun e => by have := (m600 m6).mp e; omega)]
            have hbit : bt (MK j i) d = false := by
              by_cases hz : MK j i &&& bit d = 0
              · exact hb.mp hz
              · rw [hx, if_neg hz] at h1; exact absurd rfl h1
            rw [if_neg (fun e => by rw [hs.mp e] at hbit; cases hbit), if_neg (by decide), addRow_eq _ _ _ _ _ _ _ _ _ _ _ _ _ _ _ (by omega) (by omega) (by omega) h3, obS]
/-- person j goes to another row, its board by one telling -/
theorem Rel_move {n k m u : Nat} {pa : Nat → Nat → Nat} {ri : Nat → Int32} {ps : Nat → Option Nat} {tp tt tb th un : Nat → Int32} {PR HC : Nat → Int32} {EN MK : Nat → Nat → Int32} {RU : Nat → Int32} {LT CT : Nat → Int64} {mtr men mmk mpr mhp : Nat → Int32} {mct mtd : Nat → Int64} {mru mwh mwe mwt mbf mbh mtx : Nat → Int32} (hR : Rel n k m u pa ri ps tp tt tb th un PR HC EN MK RU LT CT mtr men mmk mpr mhp mct mtd mru mwh mwe mwt mbf mbh mtx) {j c d : Nat} (hj : j < k) (hc : c < n) (hd : d < 30) (h10 : d ≠ 10) {pr' mpr' : Int32} (h1 : pr' = rt j mpr') (h2 : mpr' = -1 ∨ ∃ r, r < m ∧ mpr' = nI r ∧ mwh r = nI j) :
    Rel n k m u pa ri ps tp tt tb th un (va_up PR j pr') HC (va_up EN j (pE d (EN j) c)) (va_up MK j (pM d (MK j) c)) RU LT CT mtr (pE d men (81 * j + c)) (pM d mmk (81 * j + c)) (upd mpr j mpr') mhp mct mtd mru mwh mwe mwt mbf mbh mtx := by
  obtain ⟨⟨n1, n81, k8, m6, u1⟩, hT, hps, hP, hRw, hF, hU⟩ := hR
  refine ⟨⟨n1, n81, k8, m6, u1⟩, hT, hps, fun i hi => ?_, hRw, fun i h1 h2 => ?_, hU⟩
  · obtain ⟨q1, q2, q3, q4, q5, q6, q7, q8⟩ := hP i hi
    by_cases hij : i = j
    · subst hij
      rw [va_up_self, va_up_self, va_up_self, pk_us]
      refine ⟨fun x hx => ?_, q2, q3, q4, q5, q6, h1, h2⟩
      obtain ⟨a1, a2, a3, a4⟩ := q1 x hx
      refine ⟨?_, V10_pE a2, ?_, VMk_pM hd h10 a4⟩
      · by_cases hxc : x = c
        · subst hxc; rw [pE_at, pE_at, a1]
        · rw [pE_ne hxc, pE_ne (by omega), a1]
      · by_cases hxc : x = c
        · subst hxc; rw [pM_at, pM_at, a3]
        · rw [pM_ne hxc, pM_ne (by omega), a3]
    · rw [va_up_ne _ _ hij, va_up_ne _ _ hij, va_up_ne _ _ hij, pk_un hij]
      refine ⟨fun x hx => ?_, q2, q3, q4, q5, q6, q7, q8⟩
      obtain ⟨a1, a2, a3, a4⟩ := q1 x hx
      rw [pE_ne (show 81 * i + x ≠ 81 * j + c by omega), pM_ne (show 81 * i + x ≠ 81 * j + c by omega)]
      exact ⟨a1, a2, a3, a4⟩
  · obtain ⟨q1, q2⟩ := hF i h1 h2
    refine ⟨fun x hx => ?_, q2⟩
    rw [pE_ne (by omega), pM_ne (by omega)]
    exact q1 x hx
theorem neg_root : ∀ j, j < 8 → (-1 : Int32) - nI j < 0 := by decide +kernel
theorem holds_y {r m : Nat} (h : r < m) (hm : m ≤ 600) : f_Rt_holds (nI r) (nI m) = some 1 := by
  unfold f_Rt_holds
  rw [if_neg (nI_pos (by omega)), if_neg (nI_ge h (by omega))]
theorem holds_n {x : Int32} {m : Int32} (h : x < 0) : f_Rt_holds x m = some 0 := by
  unfold f_Rt_holds
  rw [if_pos h]
theorem R_undo {n k m u : Nat} {pa : Nat → Nat → Nat} {ri : Nat → Int32} {ps : Nat → Option Nat} {tp tt tb th un : Nat → Int32} {PR HC : Nat → Int32} {EN MK : Nat → Nat → Int32} {RU : Nat → Int32} {LT CT : Nat → Int64} {mtr men mmk mpr mhp : Nat → Int32} {mct mtd : Nat → Int64} {mru mwh mwe mwt mbf mbh mtx : Nat → Int32} (hR : Rel n k m u pa ri ps tp tt tb th un PR HC EN MK RU LT CT mtr men mmk mpr mhp mct mtd mru mwh mwe mwt mbf mbh mtx) {j : Nat} (hj : j < k) (uc a t o f : Int32) : ∃ (r : Int32) (pr' : Int32) (en' mk' men' mmk' mpr' : Nat → Int32), f_PS_undo n (nI j) (nI n) (nI k) uc ps (nI m) tp tb th (nI j) (PR j) (HC j) (EN j) (MK j) = some (r, pr', en', mk') ∧ f_Md_undo (nI j) a (nI n) (nI k) (nI m) (nI u) t o f men mmk mpr mwe mwt mbf mbh = some (r, 0, men', mmk', mpr') ∧ Rel n k m u pa ri ps tp tt tb th un (va_up PR j pr') HC (va_up EN j en') (va_up MK j mk') RU LT CT mtr men' mmk' mpr' mhp mct mtd mru mwh mwe mwt mbf mbh mtx := by
  have hR0 := hR
  obtain ⟨⟨n1, n81, k8, m6, u1⟩, hT, hps, hP, hRw, hF, hU⟩ := hR
  unfold f_PS_undo f_Md_undo
  rw [mpers_y _ _ _ _ _ _ _ hj k8, obS, it1]
  have hj8 : inB (nI j) 8 := in_nI (by omega) (by decide)
  rw [if_pos hj8]
  simp only [nI_clamp (show j < 2 ^ 31 by omega)]
  obtain ⟨q1, q2, q3, q4, q5, q6, q7, q8⟩ := hP j hj
  rcases q8 with q8 | ⟨r, r1, r2, r3⟩
  · refine ⟨-1, _, _, _, men, mmk, mpr, ?_, ?_, Rel_id hR0 j⟩
    · rw [holds_n (by rw [q7, q8, rt_m]; exact neg_root j (by omega)), obS, it0]
    · rw [if_neg (by rw [q8]; decide)]
  · rw [r2, rt_n (by omega)] at q7
    obtain ⟨e1, e2, ⟨c, hc, e3⟩, ⟨d, d1, d2, d3, e4⟩, ⟨i, e5, e6, e7, e8⟩, g1, g2, g3⟩ := hRw r r1
    have hij : i = j := by rw [r3] at e6; exact (nI_inj (by omega) (by omega) e6).symm
    subst hij
    have hr6 : inB (nI r) 600 := in_nI (by omega) (by decide)
    simp only [q7, r2, nI_clamp (show r < 2 ^ 31 by omega), e1, e3, e4]
    rw [holds_y r1 m6, obS, it1, if_pos hr6, if_pos hr6, if_pos (nI_pos' (by omega)), if_pos hj8, if_pos hr6, if_pos hr6]
    by_cases h1 : d < 10
    · obtain ⟨t1, b, b9, t2⟩ := g1 d h1 e4
      rw [t1, t2, put_eq _ _ hc n81 (by omega), obS, if_pos hr6, if_neg (by rw [le10 (by omega)]; omega), if_pos hr6, act_eq _ _ _ _ _ _ _ _ _ _ (by omega) (by omega) (by omega), obS, if_pos hr6, if_pos hj8]
      exact ⟨_, _, _, _, _, _, _, rfl, rfl, Rel_move hR0 hj hc (d := b) (by omega) (by omega) e7 (by rcases e8 with e8 | ⟨q, w1, w2, w3⟩; exact Or.inl e8; exact Or.inr ⟨q, by omega, w2, w3⟩)⟩
    · by_cases h2 : d < 20
      · rw [g2 d (by omega) h2 e4, put_eq _ _ hc n81 (by omega), obS, if_pos hr6, if_pos (by rw [le10 (by omega)]; omega), if_neg (by rw [le20 (by omega)]; omega), show nI d + (10 : Int32) = nI (d + 10) from nI_add d 10, act_eq _ _ _ _ _ _ _ _ _ _ (by omega) (by omega) (by omega), obS, if_pos hr6, if_pos hj8]
        exact ⟨_, _, _, _, _, _, _, rfl, rfl, Rel_move hR0 hj hc (d := d + 10) (by omega) (by omega) e7 (by rcases e8 with e8 | ⟨q, w1, w2, w3⟩; exact Or.inl e8; exact Or.inr ⟨q, by omega, w2, w3⟩)⟩
      · rw [g3 d (by omega) d1 e4, put_eq _ _ hc n81 (by omega), obS, if_pos hr6, if_pos (by rw [le10 (by omega)]; omega), if_pos (by rw [le20 (by omega)]; omega), show nI d - (10 : Int32) = nI (d - 10) from pk_sub (b := 10) (by omega), act_eq _ _ _ _ _ _ _ _ _ _ (by omega) (by omega) (by omega), obS, if_pos hr6, if_pos hj8]
        exact ⟨_, _, _, _, _, _, _, rfl, rfl, Rel_move hR0 hj hc (d := d - 10) (by omega) (by omega) e7 (by rcases e8 with e8 | ⟨q, w1, w2, w3⟩; exact Or.inl e8; exact Or.inr ⟨q, by omega, w2, w3⟩)⟩
theorem R_truth {n k m u : Nat} {pa : Nat → Nat → Nat} {ri : Nat → Int32} {ps : Nat → Option Nat} {tp tt tb th un : Nat → Int32} {PR HC : Nat → Int32} {EN MK : Nat → Nat → Int32} {RU : Nat → Int32} {LT CT : Nat → Int64} {mtr men mmk mpr mhp : Nat → Int32} {mct mtd : Nat → Int64} {mru mwh mwe mwt mbf mbh mtx : Nat → Int32} (hR : Rel n k m u pa ri ps tp tt tb th un PR HC EN MK RU LT CT mtr men mmk mpr mhp mct mtd mru mwh mwe mwt mbf mbh mtx) (c v uc a t o f : Int32) : ∃ (r : Int32) (ri' mtr' : Nat → Int32), f_PS_truth n c v (nI n) (nI k) uc ri = some (r, ri') ∧ f_Md_truth c v a (nI n) (nI k) (nI m) (nI u) t o f mtr = some (r, 0, mtr') ∧ Rel n k m u pa ri' ps tp tt tb th un PR HC EN MK RU LT CT mtr' men mmk mpr mhp mct mtd mru mwh mwe mwt mbf mbh mtx := by
  have hR0 := hR
  obtain ⟨⟨n1, n81, k8, m6, u1⟩, hT, hps, hP, hRw, hF, hU⟩ := hR
  unfold f_PS_truth f_Md_truth
  rcases ix_or c (n := n) (by omega) with hc | ⟨i, hi, rfl⟩
  · refine ⟨0, ri, mtr, ?_, ?_, hR0⟩
    · rw [place_n _ _ hc, obS, it0]
    · rw [mplace_n _ _ _ _ _ _ _ hc, obS, it0]
  · rw [place_y _ _ hi n81, obS, it1, mplace_y _ _ _ _ _ _ _ hi n81, obS, it1]
    rcases v09 v with hv | ⟨d, hd, rfl⟩
    · refine ⟨0, ri, mtr, ?_, ?_, hR0⟩
      · rw [z09_n hv, obS, it0]
      · by_cases h1 : v < 0
        · rw [if_pos h1]
        · rw [if_neg h1, if_neg (by rw [Int32.not_le]; exact hv.resolve_left h1)]
    · rw [z09_y hd, obS, it1, if_neg (nI_pos (by omega)), if_pos (show nI d ≤ (9 : Int32) from nI_le (b := 9) hd (by decide)), if_pos (in_nI hi (by omega)), if_pos (in_nI (show i < 81 by omega) (by decide)), nI_clamp (by omega)]
      refine ⟨1, _, _, rfl, rfl, ⟨⟨n1, n81, k8, m6, u1⟩, fun x hx => ?_, hps, hP, hRw, hF, hU⟩⟩
      by_cases hxi : x = i
      · subst hxi; rw [pk_us, pk_us]; exact ⟨rfl, d, hd, rfl⟩
      · rw [pk_un hxi, pk_un hxi]; exact hT x hx
theorem R_unit {n k m u : Nat} {pa : Nat → Nat → Nat} {ri : Nat → Int32} {ps : Nat → Option Nat} {tp tt tb th un : Nat → Int32} {PR HC : Nat → Int32} {EN MK : Nat → Nat → Int32} {RU : Nat → Int32} {LT CT : Nat → Int64} {mtr men mmk mpr mhp : Nat → Int32} {mct mtd : Nat → Int64} {mru mwh mwe mwt mbf mbh mtx : Nat → Int32} (hR : Rel n k m u pa ri ps tp tt tb th un PR HC EN MK RU LT CT mtr men mmk mpr mhp mct mtd mru mwh mwe mwt mbf mbh mtx) (v a t o f : Int32) : ∃ (r : Int32) (u' : Nat) (un' mtx' : Nat → Int32), f_PS_unit v (nI n) (nI k) (nI u) un = some (r, nI u', un') ∧ f_Md_unit v a (nI n) (nI k) (nI m) (nI u) t o f mtx = some (r, 0, nI u', mtx') ∧ Rel n k m u' pa ri ps tp tt tb th un' PR HC EN MK RU LT CT mtr men mmk mpr mhp mct mtd mru mwh mwe mwt mbf mbh mtx' := by
  have hR0 := hR
  obtain ⟨⟨n1, n81, k8, m6, u1⟩, hT, hps, hP, hRw, hF, hU⟩ := hR
  unfold f_PS_unit f_Md_unit
  by_cases h1 : v < 0
  · exact ⟨0, u, un, mtx, by rw [if_pos h1], by rw [if_pos h1], hR0⟩
  · rw [if_neg h1, if_neg h1]
    by_cases h2 : (255 : Int32) < v
    · exact ⟨0, u, un, mtx, by rw [if_pos h2], by rw [if_pos h2], hR0⟩
    · rw [if_neg h2, if_neg h2]
      by_cases h3 : u = 1000
      · refine ⟨0, u, un, mtx, ?_, ?_, hR0⟩
        · rw [if_neg (by rw [show (1000 : Int32) = nI 1000 from rfl, nI_ltI (by omega) (by decide)]; omega)]
        · rw [if_pos (by rw [h3]; rfl)]
      · have hlt : nI u < (1000 : Int32) := by rw [show (1000 : Int32) = nI 1000 from rfl, nI_ltI (by omega) (by decide)]; omega
        have hnq : ¬ nI u = (1000 : Int32) := by rw [show (1000 : Int32) = nI 1000 from rfl, nI_eq (by omega) (by decide)]; exact h3
        have hin : inB (nI u) 1000 := in_nI (show u < 1000 by omega) (by decide)
        refine ⟨1, u + 1, upd un u v, upd mtx u v, ?_, ?_, ⟨⟨n1, n81, k8, m6, by omega⟩, hT, hps, hP, hRw, hF, fun i hi => ?_⟩⟩
        · rw [if_pos hlt, if_pos hin, nI_clamp (by omega), nI_1]
        · rw [if_neg hnq, if_pos hin, nI_clamp (by omega), nI_1]
        by_cases hiu : i = u
        · subst hiu; rw [pk_us, pk_us]
          obtain ⟨b, hb, rfl⟩ := nI_of h1
          refine ⟨rfl, b, ?_, rfl⟩
          rw [show (255 : Int32) = nI 255 from rfl, nI_ltI (by decide) hb] at h2
          omega
        · rw [pk_un hiu, pk_un hiu]; exact hU i (by omega)
theorem cmp_neg (x y : Int64) : lg_cmp x y < 0 ↔ x < y := by
  unfold lg_cmp
  by_cases h1 : x > y
  · rw [if_pos h1]
    refine ⟨fun h => absurd h (by decide), fun h => ?_⟩
    rw [gt_iff_lt, Int64.lt_iff_toInt_lt] at h1
    rw [Int64.lt_iff_toInt_lt] at h
    omega
  · rw [if_neg h1]
    by_cases h2 : x = y
    · rw [if_pos h2]
      refine ⟨fun h => absurd h (by decide), fun h => ?_⟩
      rw [h2, Int64.lt_iff_toInt_lt] at h
      omega
    · rw [if_neg h2]
      refine ⟨fun _ => ?_, fun _ => by decide⟩
      rw [gt_iff_lt, Int64.lt_iff_toInt_lt] at h1
      rw [Int64.lt_iff_toInt_lt]
      have : x.toInt ≠ y.toInt := fun e => h2 (Int64.toInt_inj.mp e)
      omega
/-- may a time be told: alike -/
theorem mayT {n k m u : Nat} {j : Nat} (hj : j < k) (k8 : k ≤ 8) (ms lt : Int64) (ru : Int32) (ct : Int64) (mtd : Nat → Int64) (h : (mtd j = -1 ∧ lt = 0) ∨ (0 ≤ mtd j ∧ lt = mtd j)) (a t o f : Int32) : ∃ y, (y = 0 ∨ y = 1) ∧ f_Ck_mayBeTold ms ru lt ct = some y ∧ f_Md_mayTell (nI j) ms a (nI n) (nI k) (nI m) (nI u) t o f mtd = some y := by
  unfold f_Ck_mayBeTold f_Md_mayTell
  rw [mpers_y _ _ _ _ _ _ _ hj k8, obS, it1, if_pos (in_nI (show j < 8 by omega) (by decide)), nI_clamp (by omega)]
  by_cases h1 : ms < lt
  · refine ⟨0, Or.inl rfl, if_pos ((cmp_neg _ _).mpr h1), ?_⟩
    by_cases h2 : ms < 0
    · rw [if_pos ((cmp_neg _ _).mpr h2)]
    · rw [if_neg (fun z => h2 ((cmp_neg _ _).mp z))]
      rcases h with ⟨e1, e2⟩ | ⟨e1, e2⟩
      · rw [e2] at h1; exact absurd h1 h2
      · rw [← e2, if_pos ((cmp_neg _ _).mpr h1)]
  · refine ⟨1, Or.inr rfl, if_neg (fun z => h1 ((cmp_neg _ _).mp z)), ?_⟩
    rw [Int64.lt_iff_toInt_lt] at h1
    have z0 : (0 : Int64).toInt = 0 := by decide
    have zm : (-1 : Int64).toInt = -1 := by decide
    rcases h with ⟨e1, e2⟩ | ⟨e1, e2⟩
    · rw [e2] at h1
      rw [if_neg (fun z => by have := (cmp_neg _ _).mp z; rw [Int64.lt_iff_toInt_lt] at this; omega), e1, if_neg (fun z => by have := (cmp_neg _ _).mp z; rw [Int64.lt_iff_toInt_lt] at this; omega)]
    · rw [Int64.le_iff_toInt_le] at e1
      rw [e2] at h1
      rw [if_neg (fun z => by have := (cmp_neg _ _).mp z; rw [Int64.lt_iff_toInt_lt] at this; omega), if_neg (fun z => by have := (cmp_neg _ _).mp z; rw [Int64.lt_iff_toInt_lt] at this; omega)]
theorem cntT {n k m u : Nat} {j : Nat} (hj : j < 8) (ms lt : Int64) (ru : Int32) (ct : Int64) (mct mtd : Nat → Int64) (mru : Nat → Int32) (h : (mtd j = -1 ∧ lt = 0 ∧ mru j = 0) ∨ (0 ≤ mtd j ∧ lt = mtd j)) (h1 : ru = mru j) (h2 : ct = mct j) (a t o f : Int32) : ∃ y, f_Ck_countUpTo ms ru lt ct = some y ∧ f_Md_countedTo (nI j) ms a (nI n) (nI k) (nI m) (nI u) t o f mct mtd mru = some y := by
  unfold f_Ck_countUpTo f_Md_countedTo
  have hj8 : inB (nI j) 8 := in_nI hj (by decide)
  rw [if_pos hj8, if_pos hj8, if_pos hj8, if_pos hj8, nI_clamp (show j < 2 ^ 31 by omega), h1, h2]
  by_cases hz : mru j = 0
  · exact ⟨_, if_pos hz, if_pos hz⟩
  · refine ⟨_, if_neg hz, ?_⟩
    rw [if_neg hz]
    rcases h with ⟨e1, e2, e3⟩ | ⟨e1, e2⟩
    · exact absurd e3 hz
    · rw [e2, Int64.sub_eq_add_neg, Int64.sub_eq_add_neg, Int64.add_assoc]
theorem R_timer {n k m u : Nat} {pa : Nat → Nat → Nat} {ri : Nat → Int32} {ps : Nat → Option Nat} {tp tt tb th un : Nat → Int32} {PR HC : Nat → Int32} {EN MK : Nat → Nat → Int32} {RU : Nat → Int32} {LT CT : Nat → Int64} {mtr men mmk mpr mhp : Nat → Int32} {mct mtd : Nat → Int64} {mru mwh mwe mwt mbf mbh mtx : Nat → Int32} (hR : Rel n k m u pa ri ps tp tt tb th un PR HC EN MK RU LT CT mtr men mmk mpr mhp mct mtd mru mwh mwe mwt mbf mbh mtx) {j : Nat} (hj : j < k) (ms : Int64) (on uc a t o f : Int32) (hon : on = 0 ∨ on = 1) : ∃ (r ru' : Int32) (lt' ct' : Int64) (mct' mtd' : Nat → Int64) (mru' : Nat → Int32), f_PS_timer (nI j) ms on (nI n) (nI k) uc ps (nI j) (PR j) (HC j) (RU j) (LT j) (CT j) = some (r, ru', lt', ct') ∧ f_Md_timer (nI j) ms on a (nI n) (nI k) (nI m) (nI u) t o f mct mtd mru = some (r, 0, mct', mtd', mru') ∧ Rel n k m u pa ri ps tp tt tb th un PR HC EN MK (va_up RU j ru') (va_up LT j lt') (va_up CT j ct') mtr men mmk mpr mhp mct' mtd' mru' mwh mwe mwt mbf mbh mtx := by
  have hR0 := hR
  obtain ⟨⟨n1, n81, k8, m6, u1⟩, hT, hps, hP, hRw, hF, hU⟩ := hR
  obtain ⟨q1, q2, q3, q4, q5, q6, q7⟩ := hP j hj
  unfold f_PS_timer f_Md_timer
  rw [mpers_y _ _ _ _ _ _ _ hj k8, obS, it1, obS, it1]
  obtain ⟨y, hy, y1, y2⟩ := mayT (n := n) (m := m) (u := u) hj k8 ms (LT j) (RU j) (CT j) mtd (by rcases q6 with ⟨w1, w2, w3⟩ | w; exact Or.inl ⟨w1, w2⟩; exact Or.inr w) 0 t o f
  rw [y1, y2, obS, obS]
  rcases hy with rfl | rfl
  · rw [it0, it0]
    exact ⟨_, _, _, _, _, _, _, rfl, rfl, by rw [va_up_id, va_up_id, va_up_id]; exact hR0⟩
  · rw [it1, it1]
    obtain ⟨z, z1, z2⟩ := cntT (n := n) (k := k) (m := m) (u := u) (show j < 8 by omega) ms (LT j) (RU j) (CT j) mct mtd mru q6 q3 q5 0 t o f
    unfold f_Ck_tellTime
    have hj8 : inB (nI j) 8 := in_nI (by omega) (by decide)
    rw [z1, z2, obS, if_pos hon, obS, obS, if_pos hj8, if_pos hj8, if_pos hj8, nI_clamp (show j < 2 ^ 31 by omega)]
    refine ⟨_, _, _, _, _, _, _, rfl, rfl, ⟨⟨n1, n81, k8, m6, u1⟩, hT, hps, fun i hi => ?_, hRw, fun i g1 g2 => ?_, hU⟩⟩
    · obtain ⟨p1, p2, p3, p4, p5, p6, p7⟩ := hP i hi
      by_cases hij : i = j
      · subst hij
        have hnar : vp_nar .boolean on = on := by rcases hon with rfl | rfl <;> decide
        rw [va_up_self, va_up_self, va_up_self, pk_us, pk_uLs, pk_uLs, hnar]
        refine ⟨p1, p2, rfl, hon, rfl, Or.inr ⟨?_, rfl⟩, p7⟩
        unfold f_Ck_mayBeTold at y1
        have hle : ¬ ms < LT i := fun e => by rw [if_pos ((cmp_neg _ _).mpr e)] at y1; cases y1
        rw [Int64.lt_iff_toInt_lt] at hle
        rw [Int64.le_iff_toInt_le]
        have z0 : (0 : Int64).toInt = 0 := by decide
        rcases p6 with ⟨w1, w2, w3⟩ | ⟨w1, w2⟩
        · rw [w2] at hle; omega
        · rw [w2] at hle; rw [Int64.le_iff_toInt_le] at w1; omega
      · rw [va_up_ne _ _ hij, va_up_ne _ _ hij, va_up_ne _ _ hij, pk_un hij, pk_uLn hij, pk_uLn hij]
        exact ⟨p1, p2, p3, p4, p5, p6, p7⟩
    · have hij : i ≠ j := by omega
      rw [pk_un hij, pk_uLn hij, pk_uLn hij]
      exact hF i g1 g2
theorem R_time {n k m u : Nat} {pa : Nat → Nat → Nat} {ri : Nat → Int32} {ps : Nat → Option Nat} {tp tt tb th un : Nat → Int32} {PR HC : Nat → Int32} {EN MK : Nat → Nat → Int32} {RU : Nat → Int32} {LT CT : Nat → Int64} {mtr men mmk mpr mhp : Nat → Int32} {mct mtd : Nat → Int64} {mru mwh mwe mwt mbf mbh mtx : Nat → Int32} (hR : Rel n k m u pa ri ps tp tt tb th un PR HC EN MK RU LT CT mtr men mmk mpr mhp mct mtd mru mwh mwe mwt mbf mbh mtx) {j : Nat} (hj : j < k) (ms : Int64) (uc a t o f : Int32) : ∃ r : Int64, f_PS_time (nI j) ms (nI n) (nI k) uc ps (nI j) (PR j) (HC j) (RU j) (LT j) (CT j) = some r ∧ f_Md_time (nI j) ms a (nI n) (nI k) (nI m) (nI u) t o f mct mtd mru = some (r, 0) := by
  obtain ⟨⟨n1, n81, k8, m6, u1⟩, hT, hps, hP, hRw, hF, hU⟩ := hR
  obtain ⟨q1, q2, q3, q4, q5, q6, q7⟩ := hP j hj
  unfold f_PS_time f_Md_time
  rw [mpers_y _ _ _ _ _ _ _ hj k8, obS, it1]
  obtain ⟨y, hy, y1, y2⟩ := mayT (n := n) (m := m) (u := u) hj k8 ms (LT j) (RU j) (CT j) mtd (by rcases q6 with ⟨w1, w2, w3⟩ | w; exact Or.inl ⟨w1, w2⟩; exact Or.inr w) 0 t o f
  rw [y1, y2, obS, obS]
  rcases hy with rfl | rfl
  · exact ⟨_, it0 _ _, it0 _ _⟩
  · rw [it1, it1]
    obtain ⟨z, z1, z2⟩ := cntT (n := n) (k := k) (m := m) (u := u) (show j < 8 by omega) ms (LT j) (RU j) (CT j) mct mtd mru q6 q3 q5 0 t o f
    rw [z1, z2]
    exact ⟨z, rfl, rfl⟩
