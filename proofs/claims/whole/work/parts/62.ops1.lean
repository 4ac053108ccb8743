/-! the operations, one by one: both answer alike, and the relation holds again -/
theorem obS {α β : Type} (a : α) (f : α → Option β) : (some a).bind f = f a := rfl
theorem it0 {α : Type} (a b : α) : (if (0 : Int32) = 0 then a else b) = a := if_pos rfl
theorem it1 {α : Type} (a b : α) : (if (1 : Int32) = 0 then a else b) = b := if_neg (by decide)
theorem z09_y {d : Nat} (h : d ≤ 9) : f_PS_isZeroToNine (nI d) = some 1 := by
  unfold f_PS_isZeroToNine
  rw [if_neg (nI_pos (by omega)), if_neg (by rw [show (9 : Int32) = nI 9 from rfl, nI_ltI (by decide) (by omega)]; omega)]
theorem z19_y {d : Nat} (h1 : 1 ≤ d) (h : d ≤ 9) : f_PS_isOneToNine (nI d) = some 1 := by
  unfold f_PS_isOneToNine
  rw [if_neg (by rw [show (1 : Int32) = nI 1 from rfl, nI_ltI (by omega) (by decide)]; omega), if_neg (by rw [show (9 : Int32) = nI 9 from rfl, nI_ltI (by decide) (by omega)]; omega)]
/-- 0 to 9, or not -/
theorem v09 (v : Int32) : (v < 0 ∨ (9 : Int32) < v) ∨ ∃ d : Nat, d ≤ 9 ∧ v = nI d := by
  by_cases h1 : v < 0
  · exact Or.inl (Or.inl h1)
  · by_cases h2 : (9 : Int32) < v
    · exact Or.inl (Or.inr h2)
    · obtain ⟨d, hd, rfl⟩ := nI_of h1
      refine Or.inr ⟨d, ?_, rfl⟩
      rw [show (9 : Int32) = nI 9 from rfl, nI_ltI (by decide) hd] at h2
      omega
theorem z09_n {v : Int32} (h : v < 0 ∨ (9 : Int32) < v) : f_PS_isZeroToNine v = some 0 := by
  unfold f_PS_isZeroToNine
  by_cases h1 : v < 0
  · rw [if_pos h1]
  · rw [if_neg h1, if_pos (h.resolve_left h1)]
theorem z19_n {v : Int32} (h : v < (1 : Int32) ∨ (9 : Int32) < v) : f_PS_isOneToNine v = some 0 := by
  unfold f_PS_isOneToNine
  by_cases h1 : v < (1 : Int32)
  · rw [if_pos h1]
  · rw [if_neg h1, if_pos (h.resolve_left h1)]
theorem v19 (v : Int32) : (v < (1 : Int32) ∨ (9 : Int32) < v) ∨ ∃ d : Nat, 1 ≤ d ∧ d ≤ 9 ∧ v = nI d := by
  rcases v09 v with (h | h) | ⟨d, hd, rfl⟩
  · refine Or.inl (Or.inl ?_)
    rw [Int32.lt_iff_toInt_lt] at *
    have : (0 : Int32).toInt = 0 := by decide
    have : (1 : Int32).toInt = 1 := by decide
    omega
  · exact Or.inl (Or.inr h)
  · by_cases h0 : d = 0
    · subst h0; exact Or.inl (Or.inl (by decide))
    · exact Or.inr ⟨d, by omega, hd, rfl⟩
theorem n09 {d : Nat} (h : d ≤ 9) : ¬ (9 : Int32) < nI d := by rw [show (9 : Int32) = nI 9 from rfl, nI_ltI (by decide) (by omega)]; omega
theorem n19 {d : Nat} (h1 : 1 ≤ d) (h : d ≤ 9) : ¬ nI d < (1 : Int32) := by rw [show (1 : Int32) = nI 1 from rfl, nI_ltI (by omega) (by decide)]; omega
theorem m600 {m : Nat} (h : m ≤ 600) : nI m = (600 : Int32) ↔ m = 600 := by rw [show (600 : Int32) = nI 600 from rfl, nI_eq (by omega) (by decide)]
theorem R_at {n k m u : Nat} {pa : Nat → Nat → Nat} {ri : Nat → Int32} {ps : Nat → Option Nat} {tp tt tb th un : Nat → Int32} {PR HC : Nat → Int32} {EN MK : Nat → Nat → Int32} {RU : Nat → Int32} {LT CT : Nat → Int64} {mtr men mmk mpr mhp : Nat → Int32} {mct mtd : Nat → Int64} {mru mwh mwe mwt mbf mbh mtx : Nat → Int32} (hR : Rel n k m u pa ri ps tp tt tb th un PR HC EN MK RU LT CT mtr men mmk mpr mhp mct mtd mru mwh mwe mwt mbf mbh mtx) {j : Nat} (hj : j < k) (c uc a t o f : Int32) : ∃ r, f_PS_at n (nI j) c (nI n) (nI k) uc ps (nI j) (PR j) (HC j) (EN j) = some r ∧ f_Md_at (nI j) c a (nI n) (nI k) (nI m) (nI u) t o f men = some (r, 0) := by
  obtain ⟨⟨n1, n81, k8, m6, u1⟩, hT, hps, hP, hRw, hF, hU⟩ := hR
  unfold f_PS_at f_Md_at
  rcases ix_or c (n := n) (by omega) with hc | ⟨i, hi, rfl⟩
  · refine ⟨-1, ?_, ?_⟩
    · rw [place_n _ _ hc, obS, it0]
    · rw [mpers_y _ _ _ _ _ _ _ hj k8, obS, it1, mplace_n _ _ _ _ _ _ _ hc, obS, it0]
  · refine ⟨EN j i, ?_, ?_⟩
    · rw [place_y _ _ hi n81, obS, it1, if_pos (in_nI hi (by omega)), nI_clamp (by omega)]
    · rw [mpers_y _ _ _ _ _ _ _ hj k8, obS, it1, mplace_y _ _ _ _ _ _ _ hi n81, obS, it1, k81, if_pos (in_nI (by omega) (by decide)), nI_clamp (by omega), ((hP j hj).1 i hi).1]
theorem R_marks {n k m u : Nat} {pa : Nat → Nat → Nat} {ri : Nat → Int32} {ps : Nat → Option Nat} {tp tt tb th un : Nat → Int32} {PR HC : Nat → Int32} {EN MK : Nat → Nat → Int32} {RU : Nat → Int32} {LT CT : Nat → Int64} {mtr men mmk mpr mhp : Nat → Int32} {mct mtd : Nat → Int64} {mru mwh mwe mwt mbf mbh mtx : Nat → Int32} (hR : Rel n k m u pa ri ps tp tt tb th un PR HC EN MK RU LT CT mtr men mmk mpr mhp mct mtd mru mwh mwe mwt mbf mbh mtx) {j : Nat} (hj : j < k) (c uc a t o f : Int32) : ∃ r, f_PS_marks n (nI j) c (nI n) (nI k) uc ps (nI j) (PR j) (HC j) (MK j) = some r ∧ f_Md_marks (nI j) c a (nI n) (nI k) (nI m) (nI u) t o f mmk = some (r, 0) := by
  obtain ⟨⟨n1, n81, k8, m6, u1⟩, hT, hps, hP, hRw, hF, hU⟩ := hR
  unfold f_PS_marks f_Md_marks
  rcases ix_or c (n := n) (by omega) with hc | ⟨i, hi, rfl⟩
  · refine ⟨-1, ?_, ?_⟩
    · rw [place_n _ _ hc, obS, it0]
    · rw [mpers_y _ _ _ _ _ _ _ hj k8, obS, it1, mplace_n _ _ _ _ _ _ _ hc, obS, it0]
  · refine ⟨MK j i, ?_, ?_⟩
    · rw [place_y _ _ hi n81, obS, it1, if_pos (in_nI hi (by omega)), nI_clamp (by omega)]
    · rw [mpers_y _ _ _ _ _ _ _ hj k8, obS, it1, mplace_y _ _ _ _ _ _ _ hi n81, obS, it1, k81, if_pos (in_nI (by omega) (by decide)), nI_clamp (by omega), ((hP j hj).1 i hi).2.2.1]
theorem R_helps {n k m u : Nat} {pa : Nat → Nat → Nat} {ri : Nat → Int32} {ps : Nat → Option Nat} {tp tt tb th un : Nat → Int32} {PR HC : Nat → Int32} {EN MK : Nat → Nat → Int32} {RU : Nat → Int32} {LT CT : Nat → Int64} {mtr men mmk mpr mhp : Nat → Int32} {mct mtd : Nat → Int64} {mru mwh mwe mwt mbf mbh mtx : Nat → Int32} (hR : Rel n k m u pa ri ps tp tt tb th un PR HC EN MK RU LT CT mtr men mmk mpr mhp mct mtd mru mwh mwe mwt mbf mbh mtx) {j : Nat} (hj : j < k) (uc a t o f : Int32) : ∃ r, f_PS_helps (nI j) (nI n) (nI k) uc ps (nI j) (PR j) (HC j) = some r ∧ f_Md_helps (nI j) a (nI n) (nI k) (nI m) (nI u) t o f mhp = some (r, 0) := by
  obtain ⟨⟨n1, n81, k8, m6, u1⟩, hT, hps, hP, hRw, hF, hU⟩ := hR
  unfold f_PS_helps f_Md_helps
  refine ⟨HC j, rfl, ?_⟩
  rw [mpers_y _ _ _ _ _ _ _ hj k8, obS, it1, if_pos (in_nI (show j < 8 by omega) (by decide)), nI_clamp (by omega), (hP j hj).2.1]
/-- a row is told, or not: both do the same -/
theorem R_tell {n k m u : Nat} {pa : Nat → Nat → Nat} {ri : Nat → Int32} {ps : Nat → Option Nat} {tp tt tb th un : Nat → Int32} {PR HC : Nat → Int32} {EN MK : Nat → Nat → Int32} {RU : Nat → Int32} {LT CT : Nat → Int64} {mtr men mmk mpr mhp : Nat → Int32} {mct mtd : Nat → Int64} {mru mwh mwe mwt mbf mbh mtx : Nat → Int32} (hR : Rel n k m u pa ri ps tp tt tb th un PR HC EN MK RU LT CT mtr men mmk mpr mhp mct mtd mru mwh mwe mwt mbf mbh mtx) {j c d : Nat} (hj : j < k) (hc : c < n) (hd : d < 30) (h10 : d ≠ 10) (h20 : d ≠ 20) (uc : Int32) :
    (asI d (EN j c) (MK j c) = nI d ∨ m = 600) ∧ f_PS_tell n (nI c) (nI d) (nI n) (nI k) uc (nI m) tp tt tb th (nI j) (PR j) (HC j) (EN j) (MK j) = some (-1, nI m, tp, tt, tb, th, PR j, EN j, MK j) ∨
    (asI d (EN j c) (MK j c) ≠ nI d ∧ m < 600) ∧ f_PS_tell n (nI c) (nI d) (nI n) (nI k) uc (nI m) tp tt tb th (nI j) (PR j) (HC j) (EN j) (MK j) = some (nI m, nI (m + 1), upd tp m (nI c), upd tt m (nI d), upd tb m (asI d (EN j c) (MK j c)), upd th m (PR j), nI m, pE d (EN j) c, pM d (MK j) c) := by
  obtain ⟨⟨n1, n81, k8, m6, u1⟩, hT, hps, hP, hRw, hF, hU⟩ := hR
  rw [tell_eq _ _ _ _ _ _ _ _ _ _ _ _ hc n81 hd m6]
  by_cases h : asI d (EN j c) (MK j c) = nI d ∨ m = 600
  · exact Or.inl ⟨h, if_pos h⟩
  · exact Or.inr ⟨⟨fun e => h (Or.inl e), by have : m ≠ 600 := fun e => h (Or.inr e); omega⟩, if_neg h⟩
