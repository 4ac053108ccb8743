/-! join: the boards as they grow -/
def bdF (J : Nat → Bool) (we wt : Nat → Int32) : Nat → (Nat → Int32) × (Nat → Int32)
  | 0 => (fun _ => 0, fun _ => 0)
  | r + 1 => if J r = true then (pE (wt r).toNatClampNeg (bdF J we wt r).1 (we r).toNatClampNeg, pM (wt r).toNatClampNeg (bdF J we wt r).2 (we r).toNatClampNeg) else bdF J we wt r
def chg (J : Nat → Bool) (we wt : Nat → Int32) (r : Nat) : Bool := J r && !(decide (asI (wt r).toNatClampNeg ((bdF J we wt r).1 (we r).toNatClampNeg) ((bdF J we wt r).2 (we r).toNatClampNeg) = nI (wt r).toNatClampNeg))
def cntF (J : Nat → Bool) (we wt : Nat → Int32) : Nat → Nat
  | 0 => 0
  | r + 1 => cntF J we wt r + (if chg J we wt r = true then 1 else 0)
theorem cntF_le (J : Nat → Bool) (we wt : Nat → Int32) : ∀ r, cntF J we wt r ≤ r := by
  intro r
  induction r with
  | zero => exact Nat.le_refl _
  | succ r ih =>
    show cntF J we wt r + (if chg J we wt r = true then 1 else 0) ≤ r + 1
    split <;> omega
theorem cntF_mono (J : Nat → Bool) (we wt : Nat → Int32) : ∀ s r, cntF J we wt r ≤ cntF J we wt (r + s) := by
  intro s
  induction s with
  | zero => intro r; exact Nat.le_refl _
  | succ s ih =>
    intro r
    have := ih r
    show cntF J we wt r ≤ cntF J we wt (r + s) + (if chg J we wt (r + s) = true then 1 else 0)
    omega
/-- what is known of the rows -/
def Wr (n m : Nat) (we wt : Nat → Int32) : Prop := ∀ r, r < m → (∃ c, c < n ∧ we r = nI c) ∧ ∃ d, d < 30 ∧ d ≠ 10 ∧ d ≠ 20 ∧ wt r = nI d
theorem pE_eqn {n d c : Nat} {e f : Nat → Int32} (hc : c < n) (h : ∀ i, i < n → e i = f i) : ∀ i, i < n → pE d e c i = pE d f c i := fun i hi => by
  by_cases hic : i = c
  · subst hic; rw [pE_at, pE_at, h i hi]
  · rw [pE_ne hic, pE_ne hic, h i hi]
theorem pM_eqn {n d c : Nat} {e f : Nat → Int32} (hc : c < n) (h : ∀ i, i < n → e i = f i) : ∀ i, i < n → pM d e c i = pM d f c i := fun i hi => by
  by_cases hic : i = c
  · subst hic; rw [pM_at, pM_at, h i hi]
  · rw [pM_ne hic, pM_ne hic, h i hi]
/-- one row: the board, the flag, the count -/
theorem bd_step {n m r : Nat} {J : Nat → Bool} {we wt : Nat → Int32} (hW : Wr n m we wt) (hr : r < m) (hn : n ≤ 81) : ∃ c d, c < n ∧ d < 30 ∧ d ≠ 10 ∧ d ≠ 20 ∧ we r = nI c ∧ wt r = nI d ∧
    bdF J we wt (r + 1) = (if J r = true then (pE d (bdF J we wt r).1 c, pM d (bdF J we wt r).2 c) else bdF J we wt r) ∧ (chg J we wt r = true ↔ (J r = true ∧ asI d ((bdF J we wt r).1 c) ((bdF J we wt r).2 c) ≠ nI d)) := by
  obtain ⟨⟨c, c1, c2⟩, d, d1, d2, d3, d4⟩ := hW r hr
  refine ⟨c, d, c1, d1, d2, d3, c2, d4, ?_, ?_⟩
  · show (if J r = true then (pE (wt r).toNatClampNeg (bdF J we wt r).1 (we r).toNatClampNeg, pM (wt r).toNatClampNeg (bdF J we wt r).2 (we r).toNatClampNeg) else bdF J we wt r) = _
    rw [c2, d4, nI_clamp (by omega), nI_clamp (by omega)]
  · unfold chg
    rw [c2, d4, nI_clamp (by omega), nI_clamp (by omega)]
    simp
theorem cj_loop {n m : Nat} {J : Nat → Bool} {we wt tp tt jn : Nat → Int32} (hW : Wr n m we wt) (hn : n ≤ 81) (hm : m ≤ 600) (h1 : ∀ r, r < m → tp r = we r ∧ tt r = wt r) (h2 : ∀ r, r < m → jn r = if J r = true then 1 else 0) (fu : Nat) (a1 a2 a3 : Int32) : ∀ h g r : Nat, ∀ e x : Nat → Int32, r + h = m → h < g → (∀ i, i < n → e i = (bdF J we wt r).1 i ∧ x i = (bdF J we wt r).2 i) →
    ∃ e' x', f_PS_countJoined_L11 fu n a1 a2 a3 (nI m) tp tt jn g (nI (cntF J we wt r)) (nI r) e x = some (nI (cntF J we wt m), e', x') := by
  intro h
  induction h with
  | zero =>
    intro g r e x k1 k2 k3
    obtain ⟨g, rfl⟩ : ∃ g', g = g' + 1 := ⟨g - 1, by omega⟩
    have hrm : r = m := by omega
    subst hrm
    refine ⟨e, x, ?_⟩
    show fb_PS_countJoined_L11 fu n a1 a2 a3 (nI r) tp tt jn (f_PS_countJoined_L11 fu n a1 a2 a3 (nI r) tp tt jn g) (nI (cntF J we wt r)) (nI r) e x = _
    unfold fb_PS_countJoined_L11
    rw [if_pos (nI_le (Nat.le_refl _) (by omega))]
  | succ h ih =>
    intro g r e x k1 k2 k3
    obtain ⟨g, rfl⟩ : ∃ g', g = g' + 1 := ⟨g - 1, by omega⟩
    show ∃ e' x', fb_PS_countJoined_L11 fu n a1 a2 a3 (nI m) tp tt jn (f_PS_countJoined_L11 fu n a1 a2 a3 (nI m) tp tt jn g) (nI (cntF J we wt r)) (nI r) e x = some (nI (cntF J we wt m), e', x')
    unfold fb_PS_countJoined_L11
    have i6 : inB (nI r) 600 := in_nI (by omega) (by decide)
    obtain ⟨c, d, c1, d1, d2, d3, c2, d4, b1, b2⟩ := bd_step (J := J) hW (show r < m by omega) hn
    obtain ⟨p1, p2⟩ := h1 r (by omega)
    rw [if_neg (nI_ge (by omega) (by omega)), if_pos i6, if_pos i6, if_pos i6]
    simp only [nI_clamp (show r < 2 ^ 31 by omega), nI_1, p1, p2, c2, d4, h2 r (by omega)]
    have cs : cntF J we wt (r + 1) = cntF J we wt r + (if chg J we wt r = true then 1 else 0) := rfl
    obtain ⟨q1, q2⟩ := k3 c c1
    cases hJ : J r
    · rw [hJ] at b1 b2
      rw [if_neg (by decide)] at b1
      have hc0 : chg J we wt r = false := by
        cases hz : chg J we wt r
        · rfl
        · exact absurd (b2.mp hz).1 (by decide)
      rw [hc0, if_neg (by decide)] at cs
      rw [if_neg (show ¬ (false = true) by decide), it0]
      have := ih g (r + 1) e x (by omega) (by omega) (by rw [b1]; exact k3)
      rw [cs] at this
      exact this
    · rw [hJ] at b1 b2
      rw [if_pos rfl] at b1
      rw [if_pos rfl, it1, asItIs_eq e x c1 hn d1, obS, q1, q2]
      by_cases ha : asI d ((bdF J we wt r).1 c) ((bdF J we wt r).2 c) = nI d
      · have hc0 : chg J we wt r = false := by
          cases hz : chg J we wt r
          · rfl
          · exact absurd ha (b2.mp hz).2
        rw [hc0, if_neg (by decide)] at cs
        rw [if_pos ha]
        obtain ⟨n1, n2⟩ := noop d1 d2 d3 ha
        have := ih g (r + 1) e x (by omega) (by omega) (by rw [b1, n1, n2]; exact k3)
        rw [cs] at this
        exact this
      · rw [b2.mpr ⟨rfl, ha⟩, if_pos rfl] at cs
        rw [if_neg ha, put_eq e x c1 hn d1, obS]
        have := ih g (r + 1) (pE d e c) (pM d x c) (by omega) (by omega) (by rw [b1]; exact fun i hi => ⟨pE_eqn c1 (fun i hi => (k3 i hi).1) i hi, pM_eqn c1 (fun i hi => (k3 i hi).2) i hi⟩)
        rw [cs] at this
        exact this
theorem mj39 {m : Nat} (hm : m ≤ 600) (fu : Nat) (pl sz t o f q1 q2 z ps : Int32) (en mk pr wh we wt bf bh tE tM : Nat → Int32) : ∀ h g r : Nat, ∀ on : Nat → Int32, r + h = m → h < g → ∃ (on' : Nat → Int32) (K : (Int32 → Int32 → Int32 → Int32 → Int32 → Int32 → (Nat → Int32) → (Nat → Int32) → (Nat → Int32) → (Nat → Int32) → (Nat → Int32) → (Nat → Int32) → (Nat → Int32) → (Nat → Int32) → (Nat → Int32) → (Nat → Int32) → (Nat → Int32) → Option (Int32 × Int32 × Int32 × Int32 × (Nat → Int32) × (Nat → Int32) × (Nat → Int32) × (Nat → Int32) × (Nat → Int32) × (Nat → Int32) × (Nat → Int32) × (Nat → Int32) × (Nat → Int32) × (Nat → Int32) × (Nat → Int32)))), (∀ i, i < m → on' i = if r ≤ i then 0 else on i) ∧ f_Md_join_L39 fu pl sz t o f g q1 q2 (nI r) z ps (nI m) en mk pr wh we wt bf bh on tE tM = fb_Md_join_L39 fu pl sz t o f K q1 q2 (nI m) z ps (nI m) en mk pr wh we wt bf bh on' tE tM := by
  intro h
  induction h with
  | zero =>
    intro g r on k1 k2
    obtain ⟨g, rfl⟩ : ∃ g', g = g' + 1 := ⟨g - 1, by omega⟩
    have hrm : r = m := by omega
    subst hrm
    exact ⟨on, _, fun i hi => by rw [if_neg (by omega)], rfl⟩
  | succ h ih =>
    intro g r on k1 k2
    obtain ⟨g, rfl⟩ : ∃ g', g = g' + 1 := ⟨g - 1, by omega⟩
    obtain ⟨on', K, a1, a2⟩ := ih g (r + 1) (upd on r 0) (by omega) (by omega)
    refine ⟨on', K, fun i hi => ?_, ?_⟩
    · rw [a1 i hi]
      by_cases e : i = r
      · subst e; rw [if_neg (by omega), pk_us, if_pos (Nat.le_refl _)]
      · rw [pk_un e]
        by_cases e2 : r ≤ i
        · rw [if_pos (by omega), if_pos e2]
        · rw [if_neg (by omega), if_neg e2]
    · rw [← a2]
      show fb_Md_join_L39 fu pl sz t o f (f_Md_join_L39 fu pl sz t o f g) q1 q2 (nI r) z ps (nI m) en mk pr wh we wt bf bh on tE tM = _
      conv => lhs; unfold fb_Md_join_L39
      rw [if_neg (nI_ge (by omega) (by omega)), if_pos (in_nI (show r < 600 by omega) (by decide)), nI_clamp (by omega), nI_1, show vp_nar .boolean 0 = 0 by decide]
theorem mj72 (fu : Nat) (pl sz t o f q1 q2 z ps ma : Int32) (K : (Int32 → Int32 → Int32 → Int32 → Int32 → Int32 → (Nat → Int32) → (Nat → Int32) → (Nat → Int32) → (Nat → Int32) → (Nat → Int32) → (Nat → Int32) → (Nat → Int32) → (Nat → Int32) → (Nat → Int32) → (Nat → Int32) → (Nat → Int32) → Option (Int32 × Int32 × Int32 × Int32 × (Nat → Int32) × (Nat → Int32) × (Nat → Int32) × (Nat → Int32) × (Nat → Int32) × (Nat → Int32) × (Nat → Int32) × (Nat → Int32) × (Nat → Int32) × (Nat → Int32) × (Nat → Int32)))) (en mk pr wh we wt bf bh on : Nat → Int32) : ∀ h g c : Nat, ∀ tE tM : Nat → Int32, c + h = 81 → h < g → ∃ (tE' tM' : Nat → Int32) (K2 : (Int32 → Int32 → Int32 → Int32 → Int32 → Int32 → (Nat → Int32) → (Nat → Int32) → (Nat → Int32) → (Nat → Int32) → (Nat → Int32) → (Nat → Int32) → (Nat → Int32) → (Nat → Int32) → (Nat → Int32) → (Nat → Int32) → (Nat → Int32) → Option (Int32 × Int32 × Int32 × Int32 × (Nat → Int32) × (Nat → Int32) × (Nat → Int32) × (Nat → Int32) × (Nat → Int32) × (Nat → Int32) × (Nat → Int32) × (Nat → Int32) × (Nat → Int32) × (Nat → Int32) × (Nat → Int32)))), (∀ i, i < 81 → tE' i = (if c ≤ i then 0 else tE i) ∧ tM' i = (if c ≤ i then 0 else tM i)) ∧ f_Md_join_L72 fu pl sz t o f K g q1 q2 (nI c) z ps ma en mk pr wh we wt bf bh on tE tM = fb_Md_join_L72 fu pl sz t o f K K2 q1 q2 (nI 81) z ps ma en mk pr wh we wt bf bh on tE' tM' := by
  intro h
  induction h with
  | zero =>
    intro g c tE tM k1 k2
    obtain ⟨g, rfl⟩ : ∃ g', g = g' + 1 := ⟨g - 1, by omega⟩
    have hc : c = 81 := by omega
    subst hc
    exact ⟨tE, tM, _, fun i hi => by rw [if_neg (by omega), if_neg (by omega)]; exact ⟨rfl, rfl⟩, rfl⟩
  | succ h ih =>
    intro g c tE tM k1 k2
    obtain ⟨g, rfl⟩ : ∃ g', g = g' + 1 := ⟨g - 1, by omega⟩
    obtain ⟨tE', tM', K2, a1, a2⟩ := ih g (c + 1) (upd tE c 0) (upd tM c 0) (by omega) (by omega)
    refine ⟨tE', tM', K2, fun i hi => ?_, ?_⟩
    · obtain ⟨w1, w2⟩ := a1 i hi
      rw [w1, w2]
      by_cases e : i = c
      · subst e
        constructor
        · rw [if_neg (show ¬ i + 1 ≤ i by omega), pk_us, if_pos (Nat.le_refl i)]
        · rw [if_neg (show ¬ i + 1 ≤ i by omega), pk_us, if_pos (Nat.le_refl i)]
      · rw [pk_un e, pk_un e]
        by_cases e2 : c ≤ i
        · constructor
          · rw [if_pos (show c + 1 ≤ i by omega), if_pos e2]
          · rw [if_pos (show c + 1 ≤ i by omega), if_pos e2]
        · constructor
          · rw [if_neg (show ¬ c + 1 ≤ i by omega), if_neg e2]
          · rw [if_neg (show ¬ c + 1 ≤ i by omega), if_neg e2]
    · rw [← a2]
      show fb_Md_join_L72 fu pl sz t o f K (f_Md_join_L72 fu pl sz t o f K g) q1 q2 (nI c) z ps ma en mk pr wh we wt bf bh on tE tM = _
      conv => lhs; unfold fb_Md_join_L72
      have i8 : inB (nI c) 81 := in_nI (by omega) (by decide)
      rw [if_neg (by rw [show (81 : Int32) = nI 81 from rfl, nI_leI (by decide) (by omega)]; omega), if_pos i8, if_pos i8, nI_clamp (by omega), nI_1]
theorem mj109 {n m : Nat} {J : Nat → Bool} {we wt : Nat → Int32} (hW : Wr n m we wt) (hn : n ≤ 81) (hm : m ≤ 600) (fu : Nat) (pl sz t o f q1 q2 z ps : Int32) (K K2 : (Int32 → Int32 → Int32 → Int32 → Int32 → Int32 → (Nat → Int32) → (Nat → Int32) → (Nat → Int32) → (Nat → Int32) → (Nat → Int32) → (Nat → Int32) → (Nat → Int32) → (Nat → Int32) → (Nat → Int32) → (Nat → Int32) → (Nat → Int32) → Option (Int32 × Int32 × Int32 × Int32 × (Nat → Int32) × (Nat → Int32) × (Nat → Int32) × (Nat → Int32) × (Nat → Int32) × (Nat → Int32) × (Nat → Int32) × (Nat → Int32) × (Nat → Int32) × (Nat → Int32) × (Nat → Int32)))) (en mk pr wh bf bh : Nat → Int32) : ∀ h g r : Nat, ∀ on tE tM : Nat → Int32, r + h = m → h < g → (∀ i, i < n → tE i = (bdF J we wt r).1 i ∧ tM i = (bdF J we wt r).2 i) → (∀ i, i < m → on i = if r ≤ i then (if J i = true then 1 else 0) else (if chg J we wt i = true then 1 else 0)) →
    ∃ (on' tE' tM' : Nat → Int32) (K3 : (Int32 → Int32 → Int32 → Int32 → Int32 → Int32 → Int32 → Int32 → (Nat → Int32) → (Nat → Int32) → (Nat → Int32) → (Nat → Int32) → (Nat → Int32) → (Nat → Int32) → (Nat → Int32) → (Nat → Int32) → (Nat → Int32) → (Nat → Int32) → (Nat → Int32) → Option (Int32 × Int32 × Int32 × Int32 × (Nat → Int32) × (Nat → Int32) × (Nat → Int32) × (Nat → Int32) × (Nat → Int32) × (Nat → Int32) × (Nat → Int32) × (Nat → Int32) × (Nat → Int32) × (Nat → Int32) × (Nat → Int32)))), (∀ i, i < m → on' i = if chg J we wt i = true then 1 else 0) ∧ f_Md_join_L109 fu pl sz t o f K K2 g q1 q2 (nI m) (nI (cntF J we wt r)) (nI r) z ps (nI m) en mk pr wh we wt bf bh on tE tM = fb_Md_join_L109 fu pl sz t o f K K2 K3 q1 q2 (nI m) (nI (cntF J we wt m)) (nI m) z ps (nI m) en mk pr wh we wt bf bh on' tE' tM' := by
  intro h
  induction h with
  | zero =>
    intro g r on tE tM k1 k2 k3 k4
    obtain ⟨g, rfl⟩ : ∃ g', g = g' + 1 := ⟨g - 1, by omega⟩
    have hrm : r = m := by omega
    subst hrm
    exact ⟨on, tE, tM, _, fun i hi => by rw [k4 i hi, if_neg (by omega)], rfl⟩
  | succ h ih =>
    intro g r on tE tM k1 k2 k3 k4
    obtain ⟨g, rfl⟩ : ∃ g', g = g' + 1 := ⟨g - 1, by omega⟩
    have i6 : inB (nI r) 600 := in_nI (by omega) (by decide)
    obtain ⟨c, d, c1, d1, d2, d3, c2, d4, b1, b2⟩ := bd_step (J := J) hW (show r < m by omega) hn
    have cs : cntF J we wt (r + 1) = cntF J we wt r + (if chg J we wt r = true then 1 else 0) := rfl
    obtain ⟨p1, p2⟩ := k3 c c1
    have onr := k4 r (by omega)
    rw [if_pos (Nat.le_refl _)] at onr
    have e0 : f_Md_join_L109 fu pl sz t o f K K2 (g + 1) q1 q2 (nI m) (nI (cntF J we wt r)) (nI r) z ps (nI m) en mk pr wh we wt bf bh on tE tM = fb_Md_join_L109 fu pl sz t o f K K2 (f_Md_join_L109 fu pl sz t o f K K2 g) q1 q2 (nI m) (nI (cntF J we wt r)) (nI r) z ps (nI m) en mk pr wh we wt bf bh on tE tM := rfl
    have z0 : ∀ x : Int32, x + (0 : Int32) = x := fun x => Int32.add_zero x
    have nxt : ∀ b : Int32, (b = if chg J we wt r = true then 1 else 0) → ∀ i, i < m → upd on r b i = if r + 1 ≤ i then (if J i = true then 1 else 0) else (if chg J we wt i = true then 1 else 0) := by
      intro b hb i hi
      by_cases e : i = r
      · subst e; rw [pk_us, if_neg (by omega), hb]
      · rw [pk_un e, k4 i hi]
        by_cases e2 : r ≤ i
        · rw [if_pos e2, if_pos (show r + 1 ≤ i by omega)]
        · rw [if_neg e2, if_neg (show ¬ r + 1 ≤ i by omega)]
    cases hJ : J r
    · rw [hJ] at b1 b2 onr
      rw [if_neg (by decide)] at b1 onr
      have hc0 : chg J we wt r = false := by
        cases hz : chg J we wt r
        · rfl
        · exact absurd (b2.mp hz).1 (by decide)
      rw [hc0, if_neg (by decide)] at cs
      obtain ⟨on', tE', tM', K3, a1, a2⟩ := ih g (r + 1) (upd on r 0) tE tM (by omega) (by omega) (by rw [b1]; exact k3) (nxt 0 (by rw [hc0]; rfl))
      refine ⟨on', tE', tM', K3, a1, ?_⟩
      rw [← a2, e0]
      conv => lhs; unfold fb_Md_join_L109
      rw [if_neg (nI_ge (by omega) (by omega)), if_pos i6]
      simp only [nI_clamp (show r < 2 ^ 31 by omega), onr, if_pos i6, nI_1, show vp_nar .boolean 0 = 0 by decide, pk_us, z0, cs, Nat.add_zero]
      rfl
    · rw [hJ] at b1 b2 onr
      rw [if_pos rfl] at b1 onr
      by_cases ha : asI d ((bdF J we wt r).1 c) ((bdF J we wt r).2 c) = nI d
      · have hc0 : chg J we wt r = false := by
          cases hz : chg J we wt r
          · rfl
          · exact absurd ha (b2.mp hz).2
        rw [hc0, if_neg (by decide)] at cs
        obtain ⟨n1, n2⟩ := noop d1 d2 d3 ha
        obtain ⟨on', tE', tM', K3, a1, a2⟩ := ih g (r + 1) (upd on r 0) (pE d tE c) (pM d tM c) (by omega) (by omega) (by rw [b1]; exact fun i hi => ⟨pE_eqn c1 (fun i hi => (k3 i hi).1) i hi, pM_eqn c1 (fun i hi => (k3 i hi).2) i hi⟩) (nxt 0 (by rw [hc0]; rfl))
        refine ⟨on', tE', tM', K3, a1, ?_⟩
        rw [← a2, e0]
        conv => lhs; unfold fb_Md_join_L109
        rw [if_neg (nI_ge (by omega) (by omega)), if_pos i6, changes_eq z pl ps _ sz t o f we wt tE tM (by omega) (by omega) d1 d2 d3 c2 d4, p1, p2, if_pos ha]
        simp only [nI_clamp (show r < 2 ^ 31 by omega), onr, if_pos i6, nI_1, show vp_nar .boolean 0 = 0 by decide, pk_us, z0, cs, Nat.add_zero, obS]
        rfl
      · have hc1 : chg J we wt r = true := b2.mpr ⟨rfl, ha⟩
        rw [hc1, if_pos rfl] at cs
        obtain ⟨on', tE', tM', K3, a1, a2⟩ := ih g (r + 1) (upd on r 1) (pE d tE c) (pM d tM c) (by omega) (by omega) (by rw [b1]; exact fun i hi => ⟨pE_eqn c1 (fun i hi => (k3 i hi).1) i hi, pM_eqn c1 (fun i hi => (k3 i hi).2) i hi⟩) (nxt 1 (by rw [hc1]; rfl))
        refine ⟨on', tE', tM', K3, a1, ?_⟩
        rw [← a2, e0]
        conv => lhs; unfold fb_Md_join_L109
        rw [if_neg (nI_ge (by omega) (by omega)), if_pos i6, changes_eq z pl ps _ sz t o f we wt tE tM (by omega) (by omega) d1 d2 d3 c2 d4, p1, p2, if_neg ha]
        simp only [nI_clamp (show r < 2 ^ 31 by omega), onr, if_pos i6, nI_1, show vp_nar .boolean 1 = 1 by decide, pk_us, cs, obS]
        rfl
