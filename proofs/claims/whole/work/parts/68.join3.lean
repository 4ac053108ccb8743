/-! join: both make the same rows -/
theorem Rel_re {n k m u : Nat} {pa : Nat → Nat → Nat} {ri : Nat → Int32} {ps : Nat → Option Nat} {tp tt tb th un : Nat → Int32} {PR HC : Nat → Int32} {EN MK : Nat → Nat → Int32} {RU : Nat → Int32} {LT CT : Nat → Int64} {mtr men mmk mpr mhp : Nat → Int32} {mct mtd : Nat → Int64} {mru mwh mwe mwt mbf mbh mtx : Nat → Int32} (hR : Rel n k m u pa ri ps tp tt tb th un PR HC EN MK RU LT CT mtr men mmk mpr mhp mct mtd mru mwh mwe mwt mbf mbh mtx) {pa' : Nat → Nat → Nat} {ps' : Nat → Option Nat} (h : ∀ j, j < k → ps' j = some (pa' j 0)) : Rel n k m u pa' ri ps' tp tt tb th un PR HC EN MK RU LT CT mtr men mmk mpr mhp mct mtd mru mwh mwe mwt mbf mbh mtx := by
  obtain ⟨b, hT, hps, hP, hRw, hF, hU⟩ := hR
  exact ⟨b, hT, h, hP, hRw, hF, hU⟩
theorem tj_loop {n k m u : Nat} {J : Nat → Bool} {we0 wt0 jn on : Nat → Int32} {pa : Nat → Nat → Nat} {ri : Nat → Int32} {ps : Nat → Option Nat} {un HC RU : Nat → Int32} {LT CT : Nat → Int64} {mtr mhp : Nat → Int32} {mct mtd : Nat → Int64} {mru mtx : Nat → Int32} (hW : Wr n m we0 wt0) (hn : n ≤ 81) (hroom : m + cntF J we0 wt0 m ≤ 600) (hjn : ∀ i, i < m → jn i = if J i = true then 1 else 0) (hon : ∀ i, i < m → on i = if chg J we0 wt0 i = true then 1 else 0) (fu : Nat) (uc sz t o f q1 q2 c4 z : Int32) (K1 K2 : (Int32 → Int32 → Int32 → Int32 → Int32 → Int32 → (Nat → Int32) → (Nat → Int32) → (Nat → Int32) → (Nat → Int32) → (Nat → Int32) → (Nat → Int32) → (Nat → Int32) → (Nat → Int32) → (Nat → Int32) → (Nat → Int32) → (Nat → Int32) → Option (Int32 × Int32 × Int32 × Int32 × (Nat → Int32) × (Nat → Int32) × (Nat → Int32) × (Nat → Int32) × (Nat → Int32) × (Nat → Int32) × (Nat → Int32) × (Nat → Int32) × (Nat → Int32) × (Nat → Int32) × (Nat → Int32)))) (K3 : (Int32 → Int32 → Int32 → Int32 → Int32 → Int32 → Int32 → Int32 → (Nat → Int32) → (Nat → Int32) → (Nat → Int32) → (Nat → Int32) → (Nat → Int32) → (Nat → Int32) → (Nat → Int32) → (Nat → Int32) → (Nat → Int32) → (Nat → Int32) → (Nat → Int32) → Option (Int32 × Int32 × Int32 × Int32 × (Nat → Int32) × (Nat → Int32) × (Nat → Int32) × (Nat → Int32) × (Nat → Int32) × (Nat → Int32) × (Nat → Int32) × (Nat → Int32) × (Nat → Int32) × (Nat → Int32) × (Nat → Int32)))) (tE tM : Nat → Int32) :
    ∀ h g r m1 : Nat, ∀ (tp tt tb th PR : Nat → Int32) (EN MK : Nat → Nat → Int32) (men mmk mpr mwh mwe mwt mbf mbh : Nat → Int32), r + h = m → h < g → m1 = m + cntF J we0 wt0 r → Rel n (k + 1) m1 u pa ri ps tp tt tb th un PR HC EN MK RU LT CT mtr men mmk mpr mhp mct mtd mru mwh mwe mwt mbf mbh mtx → (∀ i, i < m → mwe i = we0 i ∧ mwt i = wt0 i) → (∀ i, i < n → EN k i = (bdF J we0 wt0 r).1 i ∧ MK k i = (bdF J we0 wt0 r).2 i) →
    ∃ (m' : Nat) (tp' tt' tb' th' : Nat → Int32) (pr' : Int32) (en' mk' men' mmk' mpr' mwh' mwe' mwt' mbf' mbh' : Nat → Int32), f_PS_tellJoined_L10 fu n (nI n) (nI (k + 1)) uc jn (nI k) (HC k) g (nI m) (nI r) (nI m1) tp tt tb th (PR k) (EN k) (MK k) = some (nI m', tp', tt', tb', th', pr', en', mk') ∧ f_Md_join_L196 fu (nI n) sz t o f K1 K2 K3 g q1 q2 (nI m) c4 (nI k) (nI r) z (nI (k + 1)) (nI m1) men mmk mpr mwh mwe mwt mbf mbh on tE tM = some (nI k, z, nI (k + 1), nI m', men', mmk', mpr', mwh', mwe', mwt', mbf', mbh', on, tE, tM) ∧ Rel n (k + 1) m' u pa ri ps tp' tt' tb' th' un (va_up PR k pr') HC (va_up EN k en') (va_up MK k mk') RU LT CT mtr men' mmk' mpr' mhp mct mtd mru mwh' mwe' mwt' mbf' mbh' mtx := by
  have hm : m ≤ 600 := by omega
  intro h
  induction h with
  | zero =>
    intro g r m1 tp tt tb th PR EN MK men mmk mpr mwh mwe mwt mbf mbh k1 k2 k3 hR k4 k5
    obtain ⟨g, rfl⟩ : ∃ g', g = g' + 1 := ⟨g - 1, by omega⟩
    have hrm : r = m := by omega
    subst hrm
    refine ⟨m1, tp, tt, tb, th, PR k, EN k, MK k, men, mmk, mpr, mwh, mwe, mwt, mbf, mbh, ?_, ?_, Rel_id hR k⟩
    · show fb_PS_tellJoined_L10 fu n (nI n) (nI (k + 1)) uc jn (nI k) (HC k) (f_PS_tellJoined_L10 fu n (nI n) (nI (k + 1)) uc jn (nI k) (HC k) g) (nI r) (nI r) (nI m1) tp tt tb th (PR k) (EN k) (MK k) = _
      unfold fb_PS_tellJoined_L10
      rw [if_pos (nI_le (Nat.le_refl _) (by omega))]
    · show fb_Md_join_L196 fu (nI n) sz t o f K1 K2 K3 (f_Md_join_L196 fu (nI n) sz t o f K1 K2 K3 g) q1 q2 (nI r) c4 (nI k) (nI r) z (nI (k + 1)) (nI m1) men mmk mpr mwh mwe mwt mbf mbh on tE tM = _
      unfold fb_Md_join_L196
      rw [if_pos (nI_le (Nat.le_refl _) (by omega))]
  | succ h ih =>
    intro g r m1 tp tt tb th PR EN MK men mmk mpr mwh mwe mwt mbf mbh k1 k2 k3 hR k4 k5
    obtain ⟨g, rfl⟩ : ∃ g', g = g' + 1 := ⟨g - 1, by omega⟩
    have hrm : r < m := by omega
    have i6 : inB (nI r) 600 := in_nI (by omega) (by decide)
    have k8 := hR.1.2.2.1
    obtain ⟨c, d, c1, d1, d2, d3, c2, d4, b1, b2⟩ := bd_step (J := J) hW hrm hn
    have cs : cntF J we0 wt0 (r + 1) = cntF J we0 wt0 r + (if chg J we0 wt0 r = true then 1 else 0) := rfl
    have ctot : cntF J we0 wt0 (r + 1) ≤ cntF J we0 wt0 m := by
      have := cntF_mono J we0 wt0 (m - (r + 1)) (r + 1)
      rw [show r + 1 + (m - (r + 1)) = m by omega] at this
      exact this
    obtain ⟨w1, w2⟩ := k4 r hrm
    obtain ⟨t1, t2, -⟩ := hR.2.2.2.2.1 r (by omega)
    have t1 : tp r = nI c := by rw [t1, w1, c2]
    have t2 : tt r = nI d := by rw [t2, w2, d4]
    have w1 : mwe r = nI c := by rw [w1, c2]
    have w2 : mwt r = nI d := by rw [w2, d4]
    have eA : f_PS_tellJoined_L10 fu n (nI n) (nI (k + 1)) uc jn (nI k) (HC k) (g + 1) (nI m) (nI r) (nI m1) tp tt tb th (PR k) (EN k) (MK k) = fb_PS_tellJoined_L10 fu n (nI n) (nI (k + 1)) uc jn (nI k) (HC k) (f_PS_tellJoined_L10 fu n (nI n) (nI (k + 1)) uc jn (nI k) (HC k) g) (nI m) (nI r) (nI m1) tp tt tb th (PR k) (EN k) (MK k) := rfl
    have eB : f_Md_join_L196 fu (nI n) sz t o f K1 K2 K3 (g + 1) q1 q2 (nI m) c4 (nI k) (nI r) z (nI (k + 1)) (nI m1) men mmk mpr mwh mwe mwt mbf mbh on tE tM = fb_Md_join_L196 fu (nI n) sz t o f K1 K2 K3 (f_Md_join_L196 fu (nI n) sz t o f K1 K2 K3 g) q1 q2 (nI m) c4 (nI k) (nI r) z (nI (k + 1)) (nI m1) men mmk mpr mwh mwe mwt mbf mbh on tE tM := rfl
    rw [eA, eB]
    unfold fb_PS_tellJoined_L10 fb_Md_join_L196
    rw [if_neg (nI_ge hrm (by omega)), if_neg (nI_ge hrm (by omega)), if_pos i6, if_pos i6]
    simp only [nI_clamp (show r < 2 ^ 31 by omega), nI_1, t1, t2, w1, w2, hjn r hrm, hon r hrm, if_pos i6]
    cases hJ : J r
    · rw [hJ] at b1 b2
      rw [if_neg (by decide)] at b1
      have hc0 : chg J we0 wt0 r = false := by
        cases hz : chg J we0 wt0 r
        · rfl
        · exact absurd (b2.mp hz).1 (by decide)
      rw [hc0, if_neg (by decide)] at cs
      rw [hc0, if_neg (show ¬ (false = true) by decide), it0, it0]
      exact ih g (r + 1) m1 tp tt tb th PR EN MK men mmk mpr mwh mwe mwt mbf mbh (by omega) (by omega) (by rw [cs]; exact k3) hR k4 (by rw [b1]; exact k5)
    · rw [hJ] at b1 b2
      rw [if_pos rfl] at b1
      obtain ⟨p1, p2⟩ := k5 c c1
      rw [if_pos (show true = true from rfl), it1]
      rcases R_tell hR (j := k) (c := c) (d := d) (by omega) c1 d1 d2 d3 uc with ⟨h1, h2⟩ | ⟨⟨h1, h3⟩, h2⟩
      · have ha : asI d ((bdF J we0 wt0 r).1 c) ((bdF J we0 wt0 r).2 c) = nI d := by
          rcases h1 with h1 | h1
          · rw [p1, p2] at h1; exact h1
          · by_cases ha : asI d ((bdF J we0 wt0 r).1 c) ((bdF J we0 wt0 r).2 c) = nI d
            · exact ha
            · rw [b2.mpr ⟨rfl, ha⟩, if_pos rfl] at cs
              omega
        have hc0 : chg J we0 wt0 r = false := by
          cases hz : chg J we0 wt0 r
          · rfl
          · exact absurd ha (b2.mp hz).2
        obtain ⟨n1, n2⟩ := noop d1 d2 d3 ha
        rw [hc0, if_neg (by decide)] at cs
        rw [hc0, if_neg (show ¬ (false = true) by decide), it0, h2, obS]
        exact ih g (r + 1) m1 tp tt tb th PR EN MK men mmk mpr mwh mwe mwt mbf mbh (by omega) (by omega) (by rw [cs]; exact k3) hR k4 (by rw [b1, n1, n2]; exact k5)
      · have ha : ¬ asI d ((bdF J we0 wt0 r).1 c) ((bdF J we0 wt0 r).2 c) = nI d := by rw [← p1, ← p2]; exact h1
        have hc1 : chg J we0 wt0 r = true := b2.mpr ⟨rfl, ha⟩
        rw [hc1, if_pos rfl] at cs
        rw [hc1, if_pos (show true = true from rfl), it1, h2, obS, addRow_eq _ _ _ _ _ _ _ _ _ _ _ _ _ _ _ (show k < 8 by omega) (by omega) d1 h3, obS]
        have hR2 := Rel_row hR (j := k) (by omega) c1 d1 d2 d3 h1 h3
        obtain ⟨m', tp', tt', tb', th', pr', en', mk', men', mmk', mpr', mwh', mwe', mwt', mbf', mbh', g1, g2, g3⟩ := ih g (r + 1) (m1 + 1) _ _ _ _ _ _ _ _ _ _ _ _ _ _ _ (by omega) (by omega) (by rw [cs]; omega) hR2 (fun i hi => by rw [pk_un (by omega), pk_un (by omega)]; exact k4 i hi) (by
          rw [va_up_self, va_up_self, b1]
          exact fun i hi => ⟨pE_eqn c1 (fun i hi => (k5 i hi).1) i hi, pM_eqn c1 (fun i hi => (k5 i hi).2) i hi⟩)
        rw [va_up_self, va_up_self, va_up_self] at g1
        rw [bx_uu, bx_uu, bx_uu] at g3
        exact ⟨m', tp', tt', tb', th', pr', en', mk', men', mmk', mpr', mwh', mwe', mwt', mbf', mbh', g1, g2, g3⟩
theorem newP_eq {k : Nat} (hk : k < 8) (z pl ma sz t o f : Int32) (mpr : Nat → Int32) : f_Md_newPerson z pl (nI k) ma sz t o f mpr = some (nI k, nI (k + 1), upd mpr k (-1)) := by
  unfold f_Md_newPerson
  rw [if_pos (in_nI hk (by decide)), nI_clamp (by omega), nI_1, show nI (k + 1) - (1 : Int32) = nI k from pk_sub (a := k + 1) (b := 1) (by omega)]
theorem Rel_Wr {n k m u : Nat} {pa : Nat → Nat → Nat} {ri : Nat → Int32} {ps : Nat → Option Nat} {tp tt tb th un : Nat → Int32} {PR HC : Nat → Int32} {EN MK : Nat → Nat → Int32} {RU : Nat → Int32} {LT CT : Nat → Int64} {mtr men mmk mpr mhp : Nat → Int32} {mct mtd : Nat → Int64} {mru mwh mwe mwt mbf mbh mtx : Nat → Int32} (hR : Rel n k m u pa ri ps tp tt tb th un PR HC EN MK RU LT CT mtr men mmk mpr mhp mct mtd mru mwh mwe mwt mbf mbh mtx) : Wr n m mwe mwt := fun r hr => by
  obtain ⟨-, -, q3, q4, -⟩ := hR.2.2.2.2.1 r hr
  exact ⟨q3, q4⟩
theorem Rel_CI {n k m u : Nat} {pa : Nat → Nat → Nat} {ri : Nat → Int32} {ps : Nat → Option Nat} {tp tt tb th un : Nat → Int32} {PR HC : Nat → Int32} {EN MK : Nat → Nat → Int32} {RU : Nat → Int32} {LT CT : Nat → Int64} {mtr men mmk mpr mhp : Nat → Int32} {mct mtd : Nat → Int64} {mru mwh mwe mwt mbf mbh mtx : Nat → Int32} (hR : Rel n k m u pa ri ps tp tt tb th un PR HC EN MK RU LT CT mtr men mmk mpr mhp mct mtd mru mwh mwe mwt mbf mbh mtx) {i : Nat} (hi : i < k) : CI mwh i m (mpr i) := by
  obtain ⟨-, -, -, -, -, -, -, q8⟩ := hR.2.2.2.1 i hi
  exact q8
theorem Rel_bh {n k m u : Nat} {pa : Nat → Nat → Nat} {ri : Nat → Int32} {ps : Nat → Option Nat} {tp tt tb th un : Nat → Int32} {PR HC : Nat → Int32} {EN MK : Nat → Nat → Int32} {RU : Nat → Int32} {LT CT : Nat → Int64} {mtr men mmk mpr mhp : Nat → Int32} {mct mtd : Nat → Int64} {mru mwh mwe mwt mbf mbh mtx : Nat → Int32} (hR : Rel n k m u pa ri ps tp tt tb th un PR HC EN MK RU LT CT mtr men mmk mpr mhp mct mtd mru mwh mwe mwt mbf mbh mtx) : ∀ s, s < m → ∀ i, i < 8 → mwh s = nI i → th s = rt i (mbh s) ∧ CI mwh i s (mbh s) := by
  intro s hs i hi hw
  have k8 := hR.1.2.2.1
  obtain ⟨-, -, -, -, ⟨j, e5, e6, e7, e8⟩, -⟩ := hR.2.2.2.2.1 s hs
  rw [hw] at e6
  have := nI_inj (by omega) (by omega) e6
  subst this
  exact ⟨e7, e8⟩
theorem R_join {n k m u : Nat} {pa : Nat → Nat → Nat} {ri : Nat → Int32} {ps : Nat → Option Nat} {tp tt tb th un : Nat → Int32} {PR HC : Nat → Int32} {EN MK : Nat → Nat → Int32} {RU : Nat → Int32} {LT CT : Nat → Int64} {mtr men mmk mpr mhp : Nat → Int32} {mct mtd : Nat → Int64} {mru mwh mwe mwt mbf mbh mtx : Nat → Int32} (hR : Rel n k m u pa ri ps tp tt tb th un PR HC EN MK RU LT CT mtr men mmk mpr mhp mct mtd mru mwh mwe mwt mbf mbh mtx) {i j : Nat} (hi : i < k) (hj : j < k) (hij : i ≠ j) (hk : k < 8) {fu : Nat} (hfu : 1000 ≤ fu) (uc a t o f : Int32) (jn dE dM on tE tM : Nat → Int32) :
    ∃ (y4 : Nat → Int32) (A : Nat) (e' x' : Nat → Int32), f_PS_chooseJoining fu (PR i) (PR j) (nI n) (nI k) uc (nI m) th jn = some y4 ∧ f_PS_countJoined fu n (nI n) (nI k) uc (nI m) tp tt y4 dE dM = some (nI A, e', x') ∧
    ((f_Rt_hasRoomFor (nI A) (nI m) = some 0 ∧ ∃ on' tE' tM', f_Md_join fu (nI i) (nI j) a (nI n) (nI k) (nI m) (nI u) t o f men mmk mpr mwh mwe mwt mbf mbh on tE tM = some (-1, 0, nI k, nI m, men, mmk, mpr, mwh, mwe, mwt, mbf, mbh, on', tE', tM')) ∨
     (f_Rt_hasRoomFor (nI A) (nI m) = some 1 ∧ ∃ (m' : Nat) (tp' tt' tb' th' : Nat → Int32) (pr' : Int32) (en' mk' men' mmk' mpr' mwh' mwe' mwt' mbf' mbh' on' tE' tM' : Nat → Int32), f_PS_tellJoined fu n (nI n) (nI (k + 1)) uc (nI m) tp tt tb th y4 (nI k) ((-1 : Int32) - nI k) 0 (fun _ => 0) (fun _ => 0) = some (nI m', tp', tt', tb', th', pr', en', mk') ∧ f_Md_join fu (nI i) (nI j) a (nI n) (nI k) (nI m) (nI u) t o f men mmk mpr mwh mwe mwt mbf mbh on tE tM = some (nI k, 0, nI (k + 1), nI m', men', mmk', mpr', mwh', mwe', mwt', mbf', mbh', on', tE', tM') ∧
       ∀ b : Nat → Nat, Rel n (k + 1) m' u (va_up pa k b) ri (va_up ps k (some (b 0))) tp' tt' tb' th' un (va_up PR k pr') (va_up HC k 0) (va_up EN k en') (va_up MK k mk') (va_up RU k 0) (va_up LT k 0) (va_up CT k 0) mtr men' mmk' mpr' mhp mct mtd mru mwh' mwe' mwt' mbf' mbh' mtx)) := by
  have hR0 := hR
  obtain ⟨⟨n1, n81, k8, m6, u1⟩, hT, hps, hP, hRw, hF, hU⟩ := hR
  have hW := Rel_Wr hR0
  have hbh := Rel_bh hR0
  have ci := Rel_CI hR0 hi
  have cj := Rel_CI hR0 hj
  have pi : PR i = rt i (mpr i) := (hP i hi).2.2.2.2.2.2.1
  have pj : PR j = rt j (mpr j) := (hP j hj).2.2.2.2.2.2.1
  obtain ⟨J, hJ⟩ : ∃ J : Nat → Bool, J = fun r => oc mbh m (mpr i) r || oc mbh m (mpr j) r := ⟨_, rfl⟩
  obtain ⟨y4, a1, a2, -⟩ := choose_eq m6 (show i < 8 by omega) (show j < 8 by omega) hij fu (nI n) (nI k) uc (PR i) (PR j) th mbh mwh hbh m fu (mpr i) (mpr j) jn (Nat.le_refl _) (by omega) ci cj
  have a2 : ∀ r, r < m → y4 r = if J r = true then 1 else 0 := fun r hr => by rw [hJ]; exact a2 r hr
  obtain ⟨e0, x0, b1, b2⟩ := clear_eq n81 hfu dE dM
  obtain ⟨e', x', b3⟩ := cj_loop (J := J) hW n81 m6 (tp := tp) (tt := tt) (jn := y4) (fun r hr => ⟨(hRw r hr).1, (hRw r hr).2.1⟩) a2 fu (nI n) (nI k) uc m fu 0 e0 x0 (by omega) (by omega) (fun i hi => ⟨(b2 i hi).1, (b2 i hi).2⟩)
  have hA := cntF_le J mwe mwt m
  refine ⟨y4, cntF J mwe mwt m, e', x', ?_, ?_, ?_⟩
  · unfold f_PS_chooseJoining
    rw [← pi, ← pj] at a1
    exact a1
  · unfold f_PS_countJoined
    rw [b1, obS]
    exact b3
  · rw [room_eq m6 (by omega)]
    -- the reference
    obtain ⟨on1, K1, o1, o2⟩ := mj39 m6 fu (nI n) (nI u) t o f (nI i) (nI j) 0 (nI k) men mmk mpr mwh mwe mwt mbf mbh tE tM m fu 0 on (by omega) (by omega)
    obtain ⟨on3, hon3⟩ : ∃ on3 : Nat → Int32, on3 = fun r => if oc mbh m (mpr j) r = true then 1 else (if oc mbh m (mpr i) r = true then 1 else on1 r) := ⟨_, rfl⟩
    obtain ⟨tE1, tM1, K2, o3, o4⟩ := mj72 fu (nI n) (nI u) t o f (nI i) (nI j) 0 (nI k) (nI m) K1 men mmk mpr mwh mwe mwt mbf mbh on3 81 fu 0 tE tM (by omega) (by omega)
    obtain ⟨on4, tE4, tM4, K3, o5, o6⟩ := mj109 (J := J) hW n81 m6 fu (nI n) (nI u) t o f (nI i) (nI j) 0 (nI k) K1 K2 men mmk mpr mwh mbf mbh m fu 0 on3 tE1 tM1 (by omega) (by omega) (fun i hi => by rw [(o3 i (by omega)).1, (o3 i (by omega)).2, if_pos (by omega), if_pos (by omega)]; exact ⟨rfl, rfl⟩) (fun r hr => by
      rw [if_pos (by omega), hon3, hJ]
      show (if oc mbh m (mpr j) r = true then 1 else (if oc mbh m (mpr i) r = true then 1 else on1 r)) = if (oc mbh m (mpr i) r || oc mbh m (mpr j) r) = true then 1 else 0
      rw [o1 r hr, if_pos (show 0 ≤ r from Nat.zero_le r)]
      cases oc mbh m (mpr j) r <;> cases oc mbh m (mpr i) r <;> rfl)
    have hjoin : f_Md_join fu (nI i) (nI j) a (nI n) (nI k) (nI m) (nI u) t o f men mmk mpr mwh mwe mwt mbf mbh on tE tM = fb_Md_join_L109 fu (nI n) (nI u) t o f K1 K2 K3 (nI i) (nI j) (nI m) (nI (cntF J mwe mwt m)) (nI m) 0 (nI k) (nI m) men mmk mpr mwh mwe mwt mbf mbh on4 tE4 tM4 := by
      unfold f_Md_join
      rw [mpers_y _ _ _ _ _ _ _ hi k8, obS, it1, mpers_y _ _ _ _ _ _ _ hj k8, obS, it1, if_neg (fun e => hij (nI_inj (by omega) (by omega) e)), if_neg (show ¬ nI k = (8 : Int32) from fun e => by have := nI_inj (b := 8) (by omega) (by decide) e; omega)]
      rw [show f_Md_join_L39 fu (nI n) (nI u) t o f fu (nI i) (nI j) 0 0 (nI k) (nI m) men mmk mpr mwh mwe mwt mbf mbh on tE tM = _ from o2]
      unfold fb_Md_join_L39
      rw [if_pos (nI_le (Nat.le_refl _) (by omega))]
      unfold f_Md_walk
      have hi8 : inB (nI i) 8 := in_nI (by omega) (by decide)
      have hj8 : inB (nI j) 8 := in_nI (by omega) (by decide)
      simp only [if_pos hi8, if_pos hj8, nI_clamp (show i < 2 ^ 31 by omega), nI_clamp (show j < 2 ^ 31 by omega)]
      rw [walk_eq m6 fu 0 (nI n) (nI k) (nI m) (nI u) t o f (nI i) mpr mbh mwh (fun s hs hw => (hbh s hs i (by omega) hw).2) m fu (mpr i) on1 (Nat.le_refl _) (by omega) ci, obS]
      rw [walk_eq m6 fu 0 (nI n) (nI k) (nI m) (nI u) t o f (nI j) mpr mbh mwh (fun s hs hw => (hbh s hs j (by omega) hw).2) m fu (mpr j) _ (Nat.le_refl _) (by omega) cj, obS]
      rw [← hon3]
      rw [show f_Md_join_L72 fu (nI n) (nI u) t o f K1 fu (nI i) (nI j) 0 0 (nI k) (nI m) men mmk mpr mwh mwe mwt mbf mbh on3 tE tM = _ from o4]
      unfold fb_Md_join_L72
      rw [if_pos (show (81 : Int32) ≤ nI 81 by decide)]
      exact o6
    rw [hjoin]
    unfold fb_Md_join_L109
    rw [if_pos (nI_le (Nat.le_refl _) (by omega)), nI_add]
    by_cases hroom : m + cntF J mwe mwt m ≤ 600
    · right
      refine ⟨by rw [if_pos hroom], ?_⟩
      rw [if_pos (show nI (m + cntF J mwe mwt m) ≤ (600 : Int32) from nI_le (b := 600) hroom (by decide)), newP_eq hk, obS]
      have hR1 := Rel_new hR0 hk (fun _ => 0)
      obtain ⟨m', tp', tt', tb', th', pr', en', mk', men', mmk', mpr', mwh', mwe', mwt', mbf', mbh', g1, g2, g3⟩ := tj_loop (J := J) (jn := y4) (on := on4) hW n81 hroom a2 o5 fu uc (nI u) t o f (nI i) (nI j) (nI (cntF J mwe mwt m)) 0 K1 K2 K3 tE4 tM4 m fu 0 m _ _ _ _ _ _ _ _ _ _ _ _ _ _ _ (by omega) (by omega) rfl hR1 (fun _ _ => ⟨rfl, rfl⟩) (by rw [va_up_self, va_up_self]; exact fun _ _ => ⟨rfl, rfl⟩)
      rw [va_up_self, va_up_self, va_up_self, va_up_self] at g1
      rw [bx_uu, bx_uu, bx_uu] at g3
      refine ⟨m', tp', tt', tb', th', pr', en', mk', men', mmk', mpr', mwh', mwe', mwt', mbf', mbh', on4, tE4, tM4, ?_, g2, fun b => Rel_re g3 (fun s hs => ?_)⟩
      · unfold f_PS_tellJoined
        exact g1
      · by_cases e : s = k
        · subst e; rw [va_up_self, va_up_self]
        · rw [va_up_ne _ _ e, va_up_ne _ _ e]; exact hps s (by omega)
    · left
      refine ⟨by rw [if_neg hroom], on4, tE4, tM4, ?_⟩
      rw [if_neg (show ¬ nI (m + cntF J mwe mwt m) ≤ (600 : Int32) from fun e => hroom ((nI_leI (b := 600) (by omega) (by decide)).mp e))]
