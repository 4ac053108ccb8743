/-! load: the rows, counted and made -/
def nd (e x : Nat → Int32) : Nat → Nat → Nat
  | 0, _ => 0
  | h + 1, c => (if e c = 0 then 0 else 1) + (mkF (x c) 9 1).length + nd e x h (c + 1)
theorem nd_le (e x : Nat → Int32) : ∀ h c, nd e x h c ≤ 10 * h := by
  intro h
  induction h with
  | zero => intro c; exact Nat.le_refl _
  | succ h ih =>
    intro c
    show (if e c = 0 then 0 else 1) + (mkF (x c) 9 1).length + nd e x h (c + 1) ≤ _
    have := ih (c + 1)
    have := mkF_len (x c) 9 1
    split <;> omega
theorem nd_same {n : Nat} {e x e2 x2 : Nat → Int32} (h : ∀ c, c < n → e c = e2 c ∧ x c = x2 c) : ∀ g c, c + g ≤ n → nd e x g c = nd e2 x2 g c := by
  intro g
  induction g with
  | zero => intro c _; rfl
  | succ g ih =>
    intro c hc
    show (if e c = 0 then 0 else 1) + (mkF (x c) 9 1).length + nd e x g (c + 1) = (if e2 c = 0 then 0 else 1) + (mkF (x2 c) 9 1).length + nd e2 x2 g (c + 1)
    obtain ⟨h1, h2⟩ := h c (by omega)
    rw [h1, h2, ih (c + 1) (by omega)]
theorem cr_loop {n : Nat} (hn : n ≤ 81) (fu : Nat) (e x : Nat → Int32) (hx : ∀ c, c < n → VMk (x c)) : ∀ h g c a : Nat, c + h = n → h < g → f_Bd_countRowsNeeded_L4 fu n e x g (nI a) (nI c) = some (nI (a + nd e x h c)) := by
  intro h
  induction h with
  | zero =>
    intro g c a h1 h2
    obtain ⟨g, rfl⟩ : ∃ g', g = g' + 1 := ⟨g - 1, by omega⟩
    show fb_Bd_countRowsNeeded_L4 fu n e x (f_Bd_countRowsNeeded_L4 fu n e x g) (nI a) (nI c) = _
    unfold fb_Bd_countRowsNeeded_L4
    rw [if_pos (show Int32.ofNat n ≤ nI c from nI_le (a := n) (by omega) (by omega))]
    rfl
  | succ h ih =>
    intro g c a h1 h2
    obtain ⟨g, rfl⟩ : ∃ g', g = g' + 1 := ⟨g - 1, by omega⟩
    show fb_Bd_countRowsNeeded_L4 fu n e x (f_Bd_countRowsNeeded_L4 fu n e x g) (nI a) (nI c) = some (nI (a + ((if e c = 0 then 0 else 1) + (mkF (x c) 9 1).length + nd e x h (c + 1))))
    unfold fb_Bd_countRowsNeeded_L4
    have i1 : inB (nI c) n := in_nI (by omega) (by omega)
    rw [if_neg (show ¬ Int32.ofNat n ≤ nI c from nI_ge (b := n) (by omega) (by omega)), if_pos i1, if_pos i1, if_pos i1, nI_clamp (show c < 2 ^ 31 by omega), (bc_eq (hx c (by omega))).1, obS, nI_1]
    by_cases he : e c = 0
    · rw [if_pos he, if_pos he, show (0 : Int32) + nI (mkF (x c) 9 1).length = nI (0 + (mkF (x c) 9 1).length) from nI_add 0 _, nI_add, ih g (c + 1) _ (by omega) (by omega)]
      congr 2; omega
    · rw [if_neg he, if_neg he, obS, show (1 : Int32) + nI (mkF (x c) 9 1).length = nI (1 + (mkF (x c) 9 1).length) from nI_add 1 _, nI_add, ih g (c + 1) _ (by omega) (by omega)]
      congr 2; omega
theorem ml55 {c : Nat} (hc : c < 81) (fu : Nat) (pl t o f : Int32) (txt : Nat → Int32) (K : (Int32 → Int32 → Int32 → Int32 → Int32 → Int32 → Int32 → (Nat → Int32) → (Nat → Int32) → (Nat → Int32) → (Nat → Int32) → (Nat → Int32) → (Nat → Int32) → (Nat → Int32) → (Nat → Int32) → (Nat → Int32) → (Nat → Int32) → Option (Int32 × Int32 × Int32 × Int32 × Int32 × (Nat → Int32) × (Nat → Int32) × (Nat → Int32) × (Nat → Int32) × (Nat → Int32) × (Nat → Int32) × (Nat → Int32) × (Nat → Int32) × (Nat → Int32) × (Nat → Int32)))) (w z ps ma sz : Int32) (en mk pr wh we wt bf bh tE tM : Nat → Int32) : ∀ h g v a : Nat, v + h = 10 → h < g → f_Md_load_L55 fu pl t o f txt K g w (nI a) (nI c) (nI v) z ps ma sz en mk pr wh we wt bf bh tE tM = K w (nI (a + (mkF (tM c) h v).length)) (nI (c + 1)) z ps ma sz en mk pr wh we wt bf bh tE tM := by
  intro h
  induction h with
  | zero =>
    intro g v a h1 h2
    obtain ⟨g, rfl⟩ : ∃ g', g = g' + 1 := ⟨g - 1, by omega⟩
    show fb_Md_load_L55 fu pl t o f txt K (f_Md_load_L55 fu pl t o f txt K g) w (nI a) (nI c) (nI v) z ps ma sz en mk pr wh we wt bf bh tE tM = _
    unfold fb_Md_load_L55
    rw [if_pos (by rw [le10 (by omega)]; omega), nI_1]
    rfl
  | succ h ih =>
    intro g v a h1 h2
    obtain ⟨g, rfl⟩ : ∃ g', g = g' + 1 := ⟨g - 1, by omega⟩
    show fb_Md_load_L55 fu pl t o f txt K (f_Md_load_L55 fu pl t o f txt K g) w (nI a) (nI c) (nI v) z ps ma sz en mk pr wh we wt bf bh tE tM = _
    unfold fb_Md_load_L55
    rw [if_neg (by rw [le10 (by omega)]; omega), if_pos (in_nI hc (by decide)), nI_clamp (show c < 2 ^ 31 by omega), nI_1]
    have e : mkF (tM c) (h + 1) v = if bt (tM c) v = true then v :: mkF (tM c) h (v + 1) else mkF (tM c) h (v + 1) := rfl
    rw [e]
    cases hz : bt (tM c) v
    · rw [mk_shr0 (by omega) hz, Int32.add_zero, ih g (v + 1) a (by omega) (by omega)]; rfl
    · rw [(mk_shr (by omega)).mpr hz, nI_1, ih g (v + 1) (a + 1) (by omega) (by omega), if_pos rfl, List.length_cons, show a + 1 + (mkF (tM c) h (v + 1)).length = a + ((mkF (tM c) h (v + 1)).length + 1) by omega]
theorem ml27 {n : Nat} (hn : n ≤ 81) {fu : Nat} (hfu : 1000 ≤ fu) (t o f : Int32) (txt : Nat → Int32) (w z ps ma sz : Int32) (en mk pr wh we wt bf bh tE tM : Nat → Int32) (hE : ∀ c, c < n → V10 (tE c)) : ∀ h g c a : Nat, c + h = n → h < g → ∃ K : (Int32 → Int32 → Int32 → Int32 → Int32 → Int32 → Int32 → (Nat → Int32) → (Nat → Int32) → (Nat → Int32) → (Nat → Int32) → (Nat → Int32) → (Nat → Int32) → (Nat → Int32) → (Nat → Int32) → (Nat → Int32) → (Nat → Int32) → Option (Int32 × Int32 × Int32 × Int32 × Int32 × (Nat → Int32) × (Nat → Int32) × (Nat → Int32) × (Nat → Int32) × (Nat → Int32) × (Nat → Int32) × (Nat → Int32) × (Nat → Int32) × (Nat → Int32) × (Nat → Int32))), f_Md_load_L27 fu (nI n) t o f txt g w (nI a) (nI c) z ps ma sz en mk pr wh we wt bf bh tE tM = fb_Md_load_L27 fu (nI n) t o f txt K w (nI (a + nd tE tM h c)) (nI n) z ps ma sz en mk pr wh we wt bf bh tE tM := by
  intro h
  induction h with
  | zero =>
    intro g c a h1 h2
    obtain ⟨g, rfl⟩ : ∃ g', g = g' + 1 := ⟨g - 1, by omega⟩
    have hcn : c = n := by omega
    subst hcn
    exact ⟨_, rfl⟩
  | succ h ih =>
    intro g c a h1 h2
    obtain ⟨g, rfl⟩ : ∃ g', g = g' + 1 := ⟨g - 1, by omega⟩
    obtain ⟨K, hK⟩ := ih g (c + 1) (a + ((if tE c = 0 then 0 else 1) + (mkF (tM c) 9 1).length)) (by omega) (by omega)
    refine ⟨K, ?_⟩
    show fb_Md_load_L27 fu (nI n) t o f txt (f_Md_load_L27 fu (nI n) t o f txt g) w (nI a) (nI c) z ps ma sz en mk pr wh we wt bf bh tE tM = fb_Md_load_L27 fu (nI n) t o f txt K w (nI (a + ((if tE c = 0 then 0 else 1) + (mkF (tM c) 9 1).length + nd tE tM h (c + 1)))) (nI n) z ps ma sz en mk pr wh we wt bf bh tE tM
    rw [show a + ((if tE c = 0 then 0 else 1) + (mkF (tM c) 9 1).length + nd tE tM h (c + 1)) = a + ((if tE c = 0 then 0 else 1) + (mkF (tM c) 9 1).length) + nd tE tM h (c + 1) by omega, ← hK]
    conv => lhs; unfold fb_Md_load_L27
    rw [if_neg (nI_ge (by omega) (by omega)), if_pos (in_nI (show c < 81 by omega) (by decide)), nI_clamp (show c < 2 ^ 31 by omega)]
    obtain ⟨d, hd, e1⟩ := hE c (by omega)
    rw [e1]
    simp only [nI_le0 (show d < 2 ^ 31 by omega), nI_eq0 (show d < 2 ^ 31 by omega)]
    by_cases h0 : d = 0
    · rw [if_pos h0, if_pos h0, Int32.add_zero]
      show f_Md_load_L55 fu (nI n) t o f txt (f_Md_load_L27 fu (nI n) t o f txt g) fu w (nI a) (nI c) (nI 1) z ps ma sz en mk pr wh we wt bf bh tE tM = _
      rw [ml55 (by omega) fu (nI n) t o f txt _ w z ps ma sz en mk pr wh we wt bf bh tE tM 9 fu 1 a (by omega) (by omega), Nat.zero_add]
    · rw [if_neg h0, if_neg h0, nI_1]
      show f_Md_load_L55 fu (nI n) t o f txt (f_Md_load_L27 fu (nI n) t o f txt g) fu w (nI (a + 1)) (nI c) (nI 1) z ps ma sz en mk pr wh we wt bf bh tE tM = _
      rw [ml55 (by omega) fu (nI n) t o f txt _ w z ps ma sz en mk pr wh we wt bf bh tE tM 9 fu 1 (a + 1) (by omega) (by omega), show a + 1 + (mkF (tM c) 9 1).length = a + (1 + (mkF (tM c) 9 1).length) by omega]
section TD
theorem td_in {n k u c : Nat} {pa : Nat → Nat → Nat} {ri : Nat → Int32} {ps : Nat → Option Nat} {un HC RU : Nat → Int32} {LT CT : Nat → Int64} {mtr mhp : Nat → Int32} {mct mtd : Nat → Int64} {mru mtx : Nat → Int32} (hn : n ≤ 81) (hc : c < n) (fu : Nat) (uc t o f w ac z sz : Int32) (txt dE dM tE tM : Nat → Int32) (hdm : dM c = tM c) (K2 : (Int32 → Int32 → (Nat → Int32) → (Nat → Int32) → (Nat → Int32) → (Nat → Int32) → Int32 → (Nat → Int32) → (Nat → Int32) → Option (Int32 × (Nat → Int32) × (Nat → Int32) × (Nat → Int32) × (Nat → Int32) × Int32 × (Nat → Int32) × (Nat → Int32)))) (K27v : (Int32 → Int32 → Int32 → Int32 → Int32 → Int32 → Int32 → (Nat → Int32) → (Nat → Int32) → (Nat → Int32) → (Nat → Int32) → (Nat → Int32) → (Nat → Int32) → (Nat → Int32) → (Nat → Int32) → (Nat → Int32) → (Nat → Int32) → Option (Int32 × Int32 × Int32 × Int32 × Int32 × (Nat → Int32) × (Nat → Int32) × (Nat → Int32) × (Nat → Int32) × (Nat → Int32) × (Nat → Int32) × (Nat → Int32) × (Nat → Int32) × (Nat → Int32) × (Nat → Int32)))) (K121v : (Int32 → Int32 → Int32 → Int32 → Int32 → Int32 → Int32 → Int32 → (Nat → Int32) → (Nat → Int32) → (Nat → Int32) → (Nat → Int32) → (Nat → Int32) → (Nat → Int32) → (Nat → Int32) → (Nat → Int32) → (Nat → Int32) → (Nat → Int32) → Option (Int32 × Int32 × Int32 × Int32 × Int32 × (Nat → Int32) × (Nat → Int32) × (Nat → Int32) × (Nat → Int32) × (Nat → Int32) × (Nat → Int32) × (Nat → Int32) × (Nat → Int32) × (Nat → Int32) × (Nat → Int32)))) :
    ∀ hh g v m1 : Nat, ∀ (tp tt tb th PR : Nat → Int32) (EN MK : Nat → Nat → Int32) (men mmk mpr mwh mwe mwt mbf mbh : Nat → Int32), v + hh = 10 → 1 ≤ v → hh < g → Rel n (k + 1) m1 u pa ri ps tp tt tb th un PR HC EN MK RU LT CT mtr men mmk mpr mhp mct mtd mru mwh mwe mwt mbf mbh mtx → m1 + (mkF (tM c) hh v).length ≤ 600 → (∀ i, v ≤ i → i < 10 → bt (MK k c) i = false) →
    ∃ (m' : Nat) (tp' tt' tb' th' PR' : Nat → Int32) (MK' : Nat → Nat → Int32) (men' mmk' mpr' mwh' mwe' mwt' mbf' mbh' : Nat → Int32), f_PS_tellDraft_L28 fu n (nI n) (nI (k + 1)) uc dE dM (nI k) (HC k) K2 g (nI c) (nI v) (nI m1) tp tt tb th (PR k) (EN k) (MK k) = K2 (nI (c + 1)) (nI m') tp' tt' tb' th' (PR' k) (EN k) (MK' k) ∧ f_Md_load_L158 fu (nI n) t o f txt K27v K121v g w ac (nI k) (nI c) (nI v) z (nI (k + 1)) (nI m1) sz men mmk mpr mwh mwe mwt mbf mbh tE tM = K121v w ac (nI k) (nI (c + 1)) z (nI (k + 1)) (nI m') sz men' mmk' mpr' mwh' mwe' mwt' mbf' mbh' tE tM ∧ Rel n (k + 1) m' u pa ri ps tp' tt' tb' th' un PR' HC EN MK' RU LT CT mtr men' mmk' mpr' mhp mct mtd mru mwh' mwe' mwt' mbf' mbh' mtx ∧ m' = m1 + (mkF (tM c) hh v).length ∧ (∀ i, i ≠ k → PR' i = PR i ∧ MK' i = MK i) ∧ (∀ i, i ≠ c → MK' k i = MK k i) := by
  intro hh
  induction hh with
  | zero =>
    intro g v m1 tp tt tb th PR EN MK men mmk mpr mwh mwe mwt mbf mbh k1 k2 k3 hR k4 k5
    obtain ⟨g, rfl⟩ : ∃ g', g = g' + 1 := ⟨g - 1, by omega⟩
    refine ⟨m1, tp, tt, tb, th, PR, MK, men, mmk, mpr, mwh, mwe, mwt, mbf, mbh, ?_, ?_, hR, rfl, fun _ _ => ⟨rfl, rfl⟩, fun _ _ => rfl⟩
    · show fb_PS_tellDraft_L28 fu n (nI n) (nI (k + 1)) uc dE dM (nI k) (HC k) K2 (f_PS_tellDraft_L28 fu n (nI n) (nI (k + 1)) uc dE dM (nI k) (HC k) K2 g) (nI c) (nI v) (nI m1) tp tt tb th (PR k) (EN k) (MK k) = _
      unfold fb_PS_tellDraft_L28
      rw [if_pos (show (9 : Int32) < nI v from nI_lt (a := 9) (by omega) (by omega)), nI_1]
    · show fb_Md_load_L158 fu (nI n) t o f txt K27v K121v (f_Md_load_L158 fu (nI n) t o f txt K27v K121v g) w ac (nI k) (nI c) (nI v) z (nI (k + 1)) (nI m1) sz men mmk mpr mwh mwe mwt mbf mbh tE tM = _
      unfold fb_Md_load_L158
      rw [if_pos (by rw [le10 (by omega)]; omega), nI_1]
  | succ hh ih =>
    intro g v m1 tp tt tb th PR EN MK men mmk mpr mwh mwe mwt mbf mbh k1 k2 k3 hR k4 k5
    obtain ⟨g, rfl⟩ : ∃ g', g = g' + 1 := ⟨g - 1, by omega⟩
    have k8 := hR.1.2.2.1
    have eA : f_PS_tellDraft_L28 fu n (nI n) (nI (k + 1)) uc dE dM (nI k) (HC k) K2 (g + 1) (nI c) (nI v) (nI m1) tp tt tb th (PR k) (EN k) (MK k) = fb_PS_tellDraft_L28 fu n (nI n) (nI (k + 1)) uc dE dM (nI k) (HC k) K2 (f_PS_tellDraft_L28 fu n (nI n) (nI (k + 1)) uc dE dM (nI k) (HC k) K2 g) (nI c) (nI v) (nI m1) tp tt tb th (PR k) (EN k) (MK k) := rfl
    have eB : f_Md_load_L158 fu (nI n) t o f txt K27v K121v (g + 1) w ac (nI k) (nI c) (nI v) z (nI (k + 1)) (nI m1) sz men mmk mpr mwh mwe mwt mbf mbh tE tM = fb_Md_load_L158 fu (nI n) t o f txt K27v K121v (f_Md_load_L158 fu (nI n) t o f txt K27v K121v g) w ac (nI k) (nI c) (nI v) z (nI (k + 1)) (nI m1) sz men mmk mpr mwh mwe mwt mbf mbh tE tM := rfl
    rw [eA, eB]
    unfold fb_PS_tellDraft_L28 fb_Md_load_L158
    rw [if_neg (n09 (show v ≤ 9 by omega)), hasMark_eq dM hc hn, obS, if_neg (show ¬ (10 : Int32) ≤ nI v by rw [le10 (by omega)]; omega), if_pos (in_nI (show c < 81 by omega) (by decide)), nI_clamp (show c < 2 ^ 31 by omega), hdm, nI_1]
    have e : mkF (tM c) (hh + 1) v = if bt (tM c) v = true then v :: mkF (tM c) hh (v + 1) else mkF (tM c) hh (v + 1) := rfl
    have hb := mk_bit (x := tM c) (v := v) (by omega)
    have hs := mk_shr (x := tM c) (v := v) (by omega)
    rw [e] at k4 ⊢
    cases hz : bt (tM c) v
    · rw [hz, if_neg (by decide)] at k4
      rw [if_pos (hb.mpr hz), it0, if_neg (fun q => by rw [hs.mp q] at hz; cases hz), if_neg (show ¬ (false = true) by decide)]
      exact ih g (v + 1) m1 tp tt tb th PR EN MK men mmk mpr mwh mwe mwt mbf mbh (by omega) (by omega) (by omega) hR k4 (fun i h1 h2 => k5 i (by omega) h2)
    · rw [hz, if_pos rfl, List.length_cons] at k4
      rw [if_neg (show ¬ (tM c &&& bit v = 0) from fun q => by rw [hb.mp q] at hz; cases hz), it1, if_pos (hs.mpr hz), if_pos (show true = true from rfl), show (10 : Int32) + nI v = nI (10 + v) from nI_add 10 v]
      have hne : asI (10 + v) (EN k c) (MK k c) ≠ nI (10 + v) := fun q => by
        have := (asI_mid (d := 10 + v) (by omega) (by omega)).mp q
        rw [show 10 + v - 10 = v by omega, k5 v (Nat.le_refl _) (by omega)] at this
        cases this
      rcases R_tell hR (j := k) (c := c) (d := 10 + v) (by omega) hc (by omega) (by omega) (by omega) uc with ⟨h1, h2⟩ | ⟨⟨h1, h3⟩, h2⟩
      · rcases h1 with h1 | h1
        · exact absurd h1 hne
        · omega
      · rw [h2, obS, addRow_eq _ _ _ _ _ _ _ _ _ _ _ _ _ _ _ (show k < 8 by omega) (by omega) (by omega) h3, obS]
        have hR2 := Rel_row hR (j := k) (by omega) hc (d := 10 + v) (by omega) (by omega) (by omega) h1 h3
        rw [pE_ge (show ¬ 10 + v < 10 by omega), pE_ge (show ¬ 10 + v < 10 by omega), va_up_id EN k] at hR2
        obtain ⟨m', tp', tt', tb', th', PR', MK', men', mmk', mpr', mwh', mwe', mwt', mbf', mbh', g1, g2, g3, g4, g5, g6⟩ := ih g (v + 1) (m1 + 1) _ _ _ _ _ _ _ _ _ _ _ _ _ _ _ (by omega) (by omega) (by omega) hR2 (by omega) (fun i i1 i2 => by
          rw [va_up_self, pM_at, if_neg (by omega), if_pos (by omega), b_or, show 10 + v - 10 = v by omega, b_bit v (by omega) i (by omega), decide_eq_false (by omega), Bool.or_false]
          exact k5 i (by omega) i2)
        rw [va_up_self, va_up_self] at g1
        rw [List.length_cons]
        refine ⟨m', tp', tt', tb', th', PR', MK', men', mmk', mpr', mwh', mwe', mwt', mbf', mbh', ?_, ?_, g3, by omega, fun i hi => ?_, fun i hi => ?_⟩
        · rw [← g1]
          show f_PS_tellDraft_L28 fu n (nI n) (nI (k + 1)) uc dE dM (nI k) (HC k) K2 g (nI c) (nI (v + 1)) (nI (m1 + 1)) _ _ _ _ (nI m1) (pE (10 + v) (EN k) c) (pM (10 + v) (MK k) c) = _
          rw [pE_ge (show ¬ 10 + v < 10 by omega)]
        · rw [← g2]
          show f_Md_load_L158 fu (nI n) t o f txt K27v K121v g w ac (nI k) (nI c) (nI (v + 1)) z (nI (k + 1)) (nI (m1 + 1)) sz (pE (10 + v) men (81 * k + c)) _ _ _ _ _ _ _ tE tM = _
          rw [pE_ge (show ¬ 10 + v < 10 by omega)]
        · obtain ⟨p1, p2⟩ := g5 i hi
          rw [va_up_ne _ _ hi] at p1 p2
          exact ⟨p1, p2⟩
        · have p1 := g6 i hi
          rw [va_up_self, pM_ne hi] at p1
          exact p1
theorem td_out {n k u : Nat} {pa : Nat → Nat → Nat} {ri : Nat → Int32} {ps : Nat → Option Nat} {un HC RU : Nat → Int32} {LT CT : Nat → Int64} {mtr mhp : Nat → Int32} {mct mtd : Nat → Int64} {mru mtx : Nat → Int32} (hn : n ≤ 81) {fu : Nat} (hfu : 1000 ≤ fu) (uc t o f w ac z sz : Int32) (txt dE dM tE tM : Nat → Int32) (hd : ∀ c, c < n → dE c = tE c ∧ V10 (tE c) ∧ dM c = tM c ∧ VMk (tM c)) (K27v : (Int32 → Int32 → Int32 → Int32 → Int32 → Int32 → Int32 → (Nat → Int32) → (Nat → Int32) → (Nat → Int32) → (Nat → Int32) → (Nat → Int32) → (Nat → Int32) → (Nat → Int32) → (Nat → Int32) → (Nat → Int32) → (Nat → Int32) → Option (Int32 × Int32 × Int32 × Int32 × Int32 × (Nat → Int32) × (Nat → Int32) × (Nat → Int32) × (Nat → Int32) × (Nat → Int32) × (Nat → Int32) × (Nat → Int32) × (Nat → Int32) × (Nat → Int32) × (Nat → Int32)))) :
    ∀ h g c m1 : Nat, ∀ (tp tt tb th PR : Nat → Int32) (EN MK : Nat → Nat → Int32) (men mmk mpr mwh mwe mwt mbf mbh : Nat → Int32), c + h = n → h < g → Rel n (k + 1) m1 u pa ri ps tp tt tb th un PR HC EN MK RU LT CT mtr men mmk mpr mhp mct mtd mru mwh mwe mwt mbf mbh mtx → m1 + nd tE tM h c ≤ 600 → (∀ i, c ≤ i → i < n → EN k i = 0 ∧ MK k i = 0) →
    ∃ (m' : Nat) (tp' tt' tb' th' PR' : Nat → Int32) (EN' MK' : Nat → Nat → Int32) (men' mmk' mpr' mwh' mwe' mwt' mbf' mbh' : Nat → Int32), f_PS_tellDraft_L2 fu n (nI n) (nI (k + 1)) uc dE dM (nI k) (HC k) g (nI c) (nI m1) tp tt tb th (PR k) (EN k) (MK k) = some (nI m', tp', tt', tb', th', PR' k, EN' k, MK' k) ∧ f_Md_load_L121 fu (nI n) t o f txt K27v g w ac (nI k) (nI c) z (nI (k + 1)) (nI m1) sz men mmk mpr mwh mwe mwt mbf mbh tE tM = some (nI k, z, nI (k + 1), nI m', sz, men', mmk', mpr', mwh', mwe', mwt', mbf', mbh', tE, tM) ∧ Rel n (k + 1) m' u pa ri ps tp' tt' tb' th' un PR' HC EN' MK' RU LT CT mtr men' mmk' mpr' mhp mct mtd mru mwh' mwe' mwt' mbf' mbh' mtx ∧ (∀ i, i ≠ k → PR' i = PR i ∧ EN' i = EN i ∧ MK' i = MK i) := by
  intro h
  induction h with
  | zero =>
    intro g c m1 tp tt tb th PR EN MK men mmk mpr mwh mwe mwt mbf mbh k1 k2 hR k4 k5
    obtain ⟨g, rfl⟩ : ∃ g', g = g' + 1 := ⟨g - 1, by omega⟩
    refine ⟨m1, tp, tt, tb, th, PR, EN, MK, men, mmk, mpr, mwh, mwe, mwt, mbf, mbh, ?_, ?_, hR, fun _ _ => ⟨rfl, rfl, rfl⟩⟩
    · show fb_PS_tellDraft_L2 fu n (nI n) (nI (k + 1)) uc dE dM (nI k) (HC k) (f_PS_tellDraft_L2 fu n (nI n) (nI (k + 1)) uc dE dM (nI k) (HC k) g) (nI c) (nI m1) tp tt tb th (PR k) (EN k) (MK k) = _
      unfold fb_PS_tellDraft_L2
      rw [if_pos (nI_le (by omega) (by omega))]
    · show fb_Md_load_L121 fu (nI n) t o f txt K27v (f_Md_load_L121 fu (nI n) t o f txt K27v g) w ac (nI k) (nI c) z (nI (k + 1)) (nI m1) sz men mmk mpr mwh mwe mwt mbf mbh tE tM = _
      unfold fb_Md_load_L121
      rw [if_pos (nI_le (by omega) (by omega))]
  | succ h ih =>
    intro g c m1 tp tt tb th PR EN MK men mmk mpr mwh mwe mwt mbf mbh k1 k2 hR k4 k5
    obtain ⟨g, rfl⟩ : ∃ g', g = g' + 1 := ⟨g - 1, by omega⟩
    have hc : c < n := by omega
    have k8 := hR.1.2.2.1
    have k4 : m1 + ((if tE c = 0 then 0 else 1) + (mkF (tM c) 9 1).length + nd tE tM h (c + 1)) ≤ 600 := k4
    obtain ⟨d1, ⟨d, d9, d2⟩, d3, d4⟩ := hd c hc
    have i8 : inB (nI c) 81 := in_nI (by omega) (by decide)
    -- behind the entry
    have rest : ∀ (m2 : Nat) (tp tt tb th PR : Nat → Int32) (EN2 MK2 : Nat → Nat → Int32) (men mmk mpr mwh mwe mwt mbf mbh : Nat → Int32), Rel n (k + 1) m2 u pa ri ps tp tt tb th un PR HC EN2 MK2 RU LT CT mtr men mmk mpr mhp mct mtd mru mwh mwe mwt mbf mbh mtx → m2 + ((mkF (tM c) 9 1).length + nd tE tM h (c + 1)) ≤ 600 → (∀ i, c + 1 ≤ i → i < n → EN2 k i = 0) → (∀ i, c ≤ i → i < n → MK2 k i = 0) →
        ∃ (m' : Nat) (tp' tt' tb' th' PR' : Nat → Int32) (EN' MK' : Nat → Nat → Int32) (men' mmk' mpr' mwh' mwe' mwt' mbf' mbh' : Nat → Int32), f_PS_tellDraft_L28 fu n (nI n) (nI (k + 1)) uc dE dM (nI k) (HC k) (f_PS_tellDraft_L2 fu n (nI n) (nI (k + 1)) uc dE dM (nI k) (HC k) g) fu (nI c) (nI 1) (nI m2) tp tt tb th (PR k) (EN2 k) (MK2 k) = some (nI m', tp', tt', tb', th', PR' k, EN' k, MK' k) ∧ f_Md_load_L158 fu (nI n) t o f txt K27v (f_Md_load_L121 fu (nI n) t o f txt K27v g) fu w ac (nI k) (nI c) (nI 1) z (nI (k + 1)) (nI m2) sz men mmk mpr mwh mwe mwt mbf mbh tE tM = some (nI k, z, nI (k + 1), nI m', sz, men', mmk', mpr', mwh', mwe', mwt', mbf', mbh', tE, tM) ∧ Rel n (k + 1) m' u pa ri ps tp' tt' tb' th' un PR' HC EN' MK' RU LT CT mtr men' mmk' mpr' mhp mct mtd mru mwh' mwe' mwt' mbf' mbh' mtx ∧ (∀ i, i ≠ k → PR' i = PR i ∧ EN' i = EN2 i ∧ MK' i = MK2 i) := by
      intro m2 tp tt tb th PR EN2 MK2 men mmk mpr mwh mwe mwt mbf mbh hR2 q1 q2 q3
      obtain ⟨m', tp', tt', tb', th', PR', MK', men', mmk', mpr', mwh', mwe', mwt', mbf', mbh', g1, g2, g3, g4, g5, g6⟩ := td_in (K2 := f_PS_tellDraft_L2 fu n (nI n) (nI (k + 1)) uc dE dM (nI k) (HC k) g) (K27v := K27v) (K121v := f_Md_load_L121 fu (nI n) t o f txt K27v g) hn hc fu uc t o f w ac z sz txt dE dM tE tM d3 9 fu 1 m2 tp tt tb th PR EN2 MK2 men mmk mpr mwh mwe mwt mbf mbh (by omega) (by omega) (by omega) hR2 (by omega) (fun i _ _ => by rw [q3 c (Nat.le_refl _) hc, b_0])
      rw [g1, g2]
      obtain ⟨m3, tp3, tt3, tb3, th3, PR3, EN3, MK3, men3, mmk3, mpr3, mwh3, mwe3, mwt3, mbf3, mbh3, r1, r2, r3, r4⟩ := ih g (c + 1) m' tp' tt' tb' th' PR' EN2 MK' men' mmk' mpr' mwh' mwe' mwt' mbf' mbh' (by omega) (by omega) g3 (by omega) (fun i i1 i2 => ⟨q2 i i1 i2, by rw [g6 i (by omega)]; exact q3 i (by omega) i2⟩)
      refine ⟨m3, tp3, tt3, tb3, th3, PR3, EN3, MK3, men3, mmk3, mpr3, mwh3, mwe3, mwt3, mbf3, mbh3, r1, r2, r3, fun i hi => ?_⟩
      obtain ⟨p1, p2, p3⟩ := r4 i hi
      obtain ⟨p4, p5⟩ := g5 i hi
      exact ⟨by rw [p1, p4], p2, by rw [p3, p5]⟩
    have eA : f_PS_tellDraft_L2 fu n (nI n) (nI (k + 1)) uc dE dM (nI k) (HC k) (g + 1) (nI c) (nI m1) tp tt tb th (PR k) (EN k) (MK k) = fb_PS_tellDraft_L2 fu n (nI n) (nI (k + 1)) uc dE dM (nI k) (HC k) (f_PS_tellDraft_L2 fu n (nI n) (nI (k + 1)) uc dE dM (nI k) (HC k) g) (nI c) (nI m1) tp tt tb th (PR k) (EN k) (MK k) := rfl
    have eB : f_Md_load_L121 fu (nI n) t o f txt K27v (g + 1) w ac (nI k) (nI c) z (nI (k + 1)) (nI m1) sz men mmk mpr mwh mwe mwt mbf mbh tE tM = fb_Md_load_L121 fu (nI n) t o f txt K27v (f_Md_load_L121 fu (nI n) t o f txt K27v g) w ac (nI k) (nI c) z (nI (k + 1)) (nI m1) sz men mmk mpr mwh mwe mwt mbf mbh tE tM := rfl
    rw [eA, eB]
    unfold fb_PS_tellDraft_L2 fb_Md_load_L121
    rw [if_neg (nI_ge hc (by omega)), if_neg (nI_ge hc (by omega)), if_pos (in_nI hc (by omega)), if_pos i8, if_pos i8, nI_clamp (show c < 2 ^ 31 by omega), d1, d2]
    simp only [nI_le0 (show d < 2 ^ 31 by omega)]
    rw [d2] at k4
    obtain ⟨z1, z2⟩ := k5 c (Nat.le_refl _) hc
    rcases R_tell hR (j := k) (c := c) (d := d) (by omega) hc (by omega) (by omega) (by omega) uc with ⟨h1, h2⟩ | ⟨⟨h1, h3⟩, h2⟩
    · have hd0 : d = 0 := by
        rcases h1 with h1 | h1
        · rw [asI_lt (by omega), z1] at h1
          exact (nI_eq0 (by omega)).mp h1.symm
        · by_cases q : d = 0
          · exact q
          · rw [if_neg (fun w => q ((nI_eq0 (by omega)).mp w))] at k4
            omega
      rw [h2, obS, if_pos hd0]
      rw [if_pos ((nI_eq0 (by omega)).mpr hd0)] at k4
      exact rest m1 tp tt tb th PR EN MK men mmk mpr mwh mwe mwt mbf mbh hR (by omega) (fun i i1 i2 => (k5 i (by omega) i2).1) (fun i i1 i2 => (k5 i i1 i2).2)
    · have hd0 : d ≠ 0 := fun q => by
        rw [asI_lt (by omega), z1, q] at h1
        exact h1 rfl
      rw [h2, obS, if_neg hd0, addRow_eq _ _ _ _ _ _ _ _ _ _ _ _ _ _ _ (show k < 8 by omega) (by omega) (by omega) h3, obS]
      rw [if_neg (fun w => hd0 ((nI_eq0 (by omega)).mp w))] at k4
      have hR2 := Rel_row hR (j := k) (by omega) hc (d := d) (by omega) (by omega) (by omega) h1 h3
      obtain ⟨m', tp', tt', tb', th', PR', EN', MK', men', mmk', mpr', mwh', mwe', mwt', mbf', mbh', g1, g2, g3, g4⟩ := rest (m1 + 1) _ _ _ _ _ _ _ _ _ _ _ _ _ _ _ hR2 (by omega) (fun i i1 i2 => by rw [va_up_self, pE_ne (by omega)]; exact (k5 i (by omega) i2).1) (fun i i1 i2 => by rw [va_up_self, pM_lt (by omega)]; exact (k5 i i1 i2).2)
      rw [va_up_self, va_up_self, va_up_self] at g1
      refine ⟨m', tp', tt', tb', th', PR', EN', MK', men', mmk', mpr', mwh', mwe', mwt', mbf', mbh', g1, g2, g3, fun i hi => ?_⟩
      obtain ⟨p1, p2, p3⟩ := g4 i hi
      rw [va_up_ne _ _ hi] at p1 p2 p3
      exact ⟨p1, p2, p3⟩
end TD
