/-! join: first its pieces -/
theorem or_same {x : Int32} {v : Nat} (hv : v < 32) (h : bt x v = true) : x ||| bit v = x := b_ext fun i hi => by
  rw [b_or, b_bit v hv i hi]
  by_cases e : i = v
  · subst e; rw [h, Bool.true_or]
  · rw [decide_eq_false e, Bool.or_false]
theorem and_same {x : Int32} {v : Nat} (hv : v < 32) (h : bt x v = false) : x &&& (bit v ^^^ (-1)) = x := b_ext fun i hi => by
  rw [b_and, b_xor, b_bit v hv i hi, b_m1 i hi]
  by_cases e : i = v
  · subst e; rw [h, Bool.false_and]
  · rw [decide_eq_false e]; simp
theorem or_diff {x : Int32} {v : Nat} (hv : v < 32) (h : bt x v = false) : ¬ x = x ||| bit v := fun e => by
  have h1 : bt x v = bt (x ||| bit v) v := by rw [← e]
  rw [b_or, b_bit v hv v hv, h, decide_eq_true rfl] at h1
  cases h1
theorem and_diff {x : Int32} {v : Nat} (hv : v < 32) (h : bt x v = true) : ¬ x = x &&& (bit v ^^^ (-1)) := fun e => by
  have h1 : bt x v = bt (x &&& (bit v ^^^ (-1))) v := by rw [← e]
  rw [b_and, b_xor, b_bit v hv v hv, b_m1 v hv, h, decide_eq_true rfl] at h1
  cases h1
theorem asI_mid {d : Nat} {e x : Int32} (h1 : 10 < d) (h2 : d < 20) : asI d e x = nI d ↔ bt x (d - 10) = true := by
  unfold asI
  rw [if_neg (by omega), if_pos h2]
  have hb := mk_bit (x := x) (v := d - 10) (by omega)
  cases hz : bt x (d - 10)
  · rw [if_pos (hb.mpr hz)]
    exact ⟨fun h => absurd (nI_inj (by omega) (by omega) h) (by omega), fun h => by cases h⟩
  · rw [if_neg (fun q => by rw [hb.mp q] at hz; cases hz)]
    exact ⟨fun _ => rfl, fun _ => rfl⟩
theorem asI_hi {d : Nat} {e x : Int32} (h1 : 20 < d) (h2 : d < 30) : asI d e x = nI d ↔ bt x (d - 20) = false := by
  unfold asI
  rw [if_neg (by omega), if_neg (by omega)]
  have hb := mk_bit (x := x) (v := d - 20) (by omega)
  cases hz : bt x (d - 20)
  · rw [if_pos (hb.mpr hz)]
    exact ⟨fun _ => rfl, fun _ => rfl⟩
  · rw [if_neg (fun q => by rw [hb.mp q] at hz; cases hz)]
    exact ⟨fun h => absurd (nI_inj (by omega) (by omega) h) (by omega), fun h => by cases h⟩
/-- what changes nothing -/
theorem noop {d c : Nat} {e x : Nat → Int32} (hd : d < 30) (h10 : d ≠ 10) (h20 : d ≠ 20) (h : asI d (e c) (x c) = nI d) : pE d e c = e ∧ pM d x c = x := by
  by_cases h1 : d < 10
  · rw [asI_lt h1] at h
    unfold pE pM
    rw [if_pos h1, if_pos h1, ← h]
    exact ⟨upd_id e c, rfl⟩
  · unfold pE pM
    rw [if_neg h1, if_neg h1]
    by_cases h2 : d < 20
    · rw [if_pos h2, or_same (by omega) ((asI_mid (by omega) h2).mp h)]
      exact ⟨rfl, upd_id x c⟩
    · rw [if_neg h2, and_same (by omega) ((asI_hi (by omega) hd).mp h)]
      exact ⟨rfl, upd_id x c⟩
theorem changes_eq {r c d : Nat} (z pl ps ma sz t o f : Int32) (we wt tE tM : Nat → Int32) (hr : r < 600) (hc : c < 81) (hd : d < 30) (h10 : d ≠ 10) (h20 : d ≠ 20) (e1 : we r = nI c) (e2 : wt r = nI d) : f_Md_changes (nI r) z pl ps ma sz t o f we wt tE tM = some (if asI d (tE c) (tM c) = nI d then 0 else 1, pE d tE c, pM d tM c) := by
  unfold f_Md_changes
  have i6 : inB (nI r) 600 := in_nI hr (by decide)
  have i8 : inB (nI c) 81 := in_nI hc (by decide)
  simp only [if_pos i6, nI_clamp (show r < 2 ^ 31 by omega), e1, e2, if_pos i8, nI_clamp (show c < 2 ^ 31 by omega), pk_us]
  unfold pE pM
  by_cases h1 : d < 10
  · have n1 : ¬ (10 : Int32) ≤ nI d := by rw [le10 (by omega)]; omega
    simp only [if_neg n1, if_pos h1, asI_lt h1]
    split <;> rfl
  · have n1 : (10 : Int32) ≤ nI d := by rw [le10 (by omega)]; omega
    simp only [if_pos n1, if_neg h1]
    by_cases h2 : d < 20
    · have n2 : ¬ (20 : Int32) ≤ nI d := by rw [le20 (by omega)]; omega
      simp only [if_neg n2, if_pos h2]
      rw [show nI d - (10 : Int32) = nI (d - 10) from pk_sub (b := 10) (by omega)]
      show (if tM c = (tM c ||| bit (d - 10)) then _ else _) = _
      have hm := asI_mid (d := d) (e := tE c) (x := tM c) (by omega) h2
      cases hz : bt (tM c) (d - 10)
      · rw [if_neg (or_diff (by omega) hz), if_neg (fun q => by rw [hm.mp q] at hz; cases hz)]; rfl
      · rw [if_pos (or_same (by omega) hz).symm, if_pos (hm.mpr hz)]; rfl
    · have n2 : (20 : Int32) ≤ nI d := by rw [le20 (by omega)]; omega
      simp only [if_pos n2, if_neg h2]
      rw [show nI d - (20 : Int32) = nI (d - 20) from pk_sub (b := 20) (by omega)]
      show (if tM c = (tM c &&& (bit (d - 20) ^^^ (-1))) then _ else _) = _
      have hm := asI_hi (d := d) (e := tE c) (x := tM c) (by omega) hd
      cases hz : bt (tM c) (d - 20)
      · rw [if_pos (and_same (by omega) hz).symm, if_pos (hm.mpr hz)]; rfl
      · rw [if_neg (and_diff (by omega) hz), if_neg (fun q => by rw [hm.mp q] at hz; cases hz)]; rfl
/-- the rows on a branch that begins at x, below i -/
def oc (bh : Nat → Int32) : Nat → Int32 → Nat → Bool
  | 0, _, _ => false
  | i + 1, x, r => if x = nI i then (r == i || oc bh i (bh i) r) else oc bh i x r
theorem oc_lt (bh : Nat → Int32) : ∀ i x r, oc bh i x r = true → r < i := by
  intro i
  induction i with
  | zero => intro x r h; cases h
  | succ i ih =>
    intro x r h
    show r < i + 1
    have h : (if x = nI i then (r == i || oc bh i (bh i) r) else oc bh i x r) = true := h
    split at h
    · rw [Bool.or_eq_true, beq_iff_eq] at h
      rcases h with h | h
      · omega
      · have := ih _ _ h; omega
    · have := ih _ _ h; omega
/-- x is the root, or a row of p below i -/
def CI (mwh : Nat → Int32) (p i : Nat) (x : Int32) : Prop := x = -1 ∨ ∃ s, s < i ∧ x = nI s ∧ mwh s = nI p
theorem m1_neg : (-1 : Int32) < 0 := by decide
theorem walk_eq {m p : Nat} (hm : m ≤ 600) (fu : Nat) (z pl ps ma sz t o f q : Int32) (pr bh mwh : Nat → Int32) (hb : ∀ s, s < m → mwh s = nI p → CI mwh p s (bh s)) : ∀ i g : Nat, ∀ x : Int32, ∀ on : Nat → Int32, i ≤ m → i < g → CI mwh p i x →
    f_Md_walk_L7 fu z pl ps ma sz t o f pr bh g q x on = some (fun r => if oc bh i x r = true then 1 else on r) := by
  intro i
  induction i with
  | zero =>
    intro g x on h1 h2 h3
    obtain ⟨g, rfl⟩ : ∃ g', g = g' + 1 := ⟨g - 1, by omega⟩
    show fb_Md_walk_L7 fu z pl ps ma sz t o f pr bh (f_Md_walk_L7 fu z pl ps ma sz t o f pr bh g) q x on = _
    unfold fb_Md_walk_L7
    rcases h3 with rfl | ⟨s, s1, s2, s3⟩
    · rw [if_pos m1_neg]; rfl
    · omega
  | succ i ih =>
    intro g x on h1 h2 h3
    by_cases hx : x = nI i
    · obtain ⟨g, rfl⟩ : ∃ g', g = g' + 1 := ⟨g - 1, by omega⟩
      have hi : mwh i = nI p := by
        rcases h3 with h3 | ⟨s, s1, s2, s3⟩
        · rw [hx] at h3; exact absurd h3 (nI_m1 (by omega))
        · rw [hx] at s2; rw [nI_inj (by omega) (by omega) s2]; exact s3
      show fb_Md_walk_L7 fu z pl ps ma sz t o f pr bh (f_Md_walk_L7 fu z pl ps ma sz t o f pr bh g) q x on = _
      unfold fb_Md_walk_L7
      have i6 : inB (nI i) 600 := in_nI (by omega) (by decide)
      rw [hx, if_neg (nI_pos (by omega)), if_pos i6, if_pos i6, nI_clamp (by omega), show vp_nar .boolean 1 = 1 by decide]
      rw [ih g (bh i) _ (by omega) (by omega) (hb i (by omega) hi)]
      congr 1
      funext r
      show _ = if (if nI i = nI i then (r == i || oc bh i (bh i) r) else oc bh i (nI i) r) = true then 1 else on r
      rw [if_pos rfl]
      by_cases hr : r = i
      · subst hr
        rw [pk_us]
        simp
      · rw [pk_un hr, show (r == i) = false from beq_eq_false_iff_ne.mpr hr, Bool.false_or]
    · have h4 : CI mwh p i x := by
        rcases h3 with h3 | ⟨s, s1, s2, s3⟩
        · exact Or.inl h3
        · refine Or.inr ⟨s, ?_, s2, s3⟩
          have : s ≠ i := fun e => hx (by rw [s2, e])
          omega
      rw [ih g x on (by omega) (by omega) h4]
      congr 1
      funext r
      show _ = if (if x = nI i then (r == i || oc bh i (bh i) r) else oc bh i x r) = true then 1 else on r
      rw [if_neg hx]
/-- the class's way down the rows -/
theorem choose_eq {m p q : Nat} (hm : m ≤ 600) (hp : p < 8) (hq : q < 8) (hpq : p ≠ q) (fu : Nat) (a1 a2 a3 b1 b2 : Int32) (th bh mwh : Nat → Int32)
    (hb : ∀ s, s < m → ∀ i, i < 8 → mwh s = nI i → th s = rt i (bh s) ∧ CI mwh i s (bh s)) : ∀ i g : Nat, ∀ x y : Int32, ∀ jn : Nat → Int32, i ≤ m → i < g → CI mwh p i x → CI mwh q i y →
    ∃ jn', f_PS_chooseJoining_L16 fu a1 a2 a3 (nI m) th g b1 b2 (rt p x) (rt q y) (nI i - 1) jn = some jn' ∧ (∀ r, r < i → jn' r = if (oc bh i x r || oc bh i y r) = true then 1 else 0) ∧ ∀ r, i ≤ r → jn' r = jn r := by
  intro i
  induction i with
  | zero =>
    intro g x y jn h1 h2 h3 h4
    obtain ⟨g, rfl⟩ : ∃ g', g = g' + 1 := ⟨g - 1, by omega⟩
    refine ⟨jn, ?_, fun r hr => by omega, fun _ _ => rfl⟩
    show fb_PS_chooseJoining_L16 fu a1 a2 a3 (nI m) th (f_PS_chooseJoining_L16 fu a1 a2 a3 (nI m) th g) b1 b2 (rt p x) (rt q y) (nI 0 - 1) jn = _
    unfold fb_PS_chooseJoining_L16
    rw [if_pos (show nI 0 - 1 < 0 by decide)]
  | succ i ih =>
    intro g x y jn h1 h2 h3 h4
    obtain ⟨g, rfl⟩ : ∃ g', g = g' + 1 := ⟨g - 1, by omega⟩
    have hrx : ∀ (w : Nat) (v : Int32), w < 8 → CI mwh w (i + 1) v → (nI i = rt w v ↔ v = nI i) := by
      intro w v hw hv
      rcases hv with rfl | ⟨s, s1, rfl, s3⟩
      · rw [rt_m]
        exact ⟨fun e => absurd e.symm (root_ne w hw i (by omega)), fun e => absurd e.symm (nI_m1 (by omega))⟩
      · rw [rt_n (by omega)]
        exact ⟨fun e => e.symm, fun e => e.symm⟩
    have hdown : ∀ (w : Nat) (v : Int32), CI mwh w (i + 1) v → v ≠ nI i → CI mwh w i v := by
      intro w v hv hne
      rcases hv with hv | ⟨s, s1, s2, s3⟩
      · exact Or.inl hv
      · refine Or.inr ⟨s, ?_, s2, s3⟩
        have : s ≠ i := fun e => hne (by rw [s2, e])
        omega
    have hown : ∀ (w : Nat) (v : Int32), CI mwh w (i + 1) v → v = nI i → mwh i = nI w := by
      intro w v hv he
      rcases hv with hv | ⟨s, s1, s2, s3⟩
      · rw [he] at hv; exact absurd hv (nI_m1 (by omega))
      · rw [he] at s2; rw [nI_inj (by omega) (by omega) s2]; exact s3
    have i6 : inB (nI i) 600 := in_nI (by omega) (by decide)
    have e1 : ∀ jn, f_PS_chooseJoining_L16 fu a1 a2 a3 (nI m) th (g + 1) b1 b2 (rt p x) (rt q y) (nI (i + 1) - 1) jn = fb_PS_chooseJoining_L16 fu a1 a2 a3 (nI m) th (f_PS_chooseJoining_L16 fu a1 a2 a3 (nI m) th g) b1 b2 (rt p x) (rt q y) (nI i) jn := fun jn => by rw [nI_pred]; rfl
    rw [e1]
    unfold fb_PS_chooseJoining_L16
    have hm1 : nI i + (-1) = nI i - 1 := by rw [Int32.sub_eq_add_neg]
    have ox : ∀ v r, oc bh (i + 1) v r = if v = nI i then (r == i || oc bh i (bh i) r) else oc bh i v r := fun _ _ => rfl
    have fin : ∀ (X Y : Int32) (b : Int32), CI mwh p i X → CI mwh q i Y → (∀ r, r < i → (oc bh (i + 1) x r || oc bh (i + 1) y r) = (oc bh i X r || oc bh i Y r)) → b = (if (oc bh (i + 1) x i || oc bh (i + 1) y i) = true then 1 else 0) → ∃ jn', f_PS_chooseJoining_L16 fu a1 a2 a3 (nI m) th g b1 b2 (rt p X) (rt q Y) (nI i - 1) (upd jn i b) = some jn' ∧ (∀ r, r < i + 1 → jn' r = if (oc bh (i + 1) x r || oc bh (i + 1) y r) = true then 1 else 0) ∧ ∀ r, i + 1 ≤ r → jn' r = jn r := by
      intro X Y b hX hY hall hb0
      obtain ⟨jn', k1, k2, k3⟩ := ih g X Y (upd jn i b) (by omega) (by omega) hX hY
      refine ⟨jn', k1, fun r hr => ?_, fun r hr => ?_⟩
      · by_cases hri : r = i
        · subst hri; rw [k3 r (Nat.le_refl _), pk_us, hb0]
        · rw [k2 r (by omega), hall r (by omega)]
      · rw [k3 r (by omega), pk_un (by omega)]
    have noi : ∀ v, oc bh i v i = false := fun v => by
      cases hz : oc bh i v i
      · rfl
      · have := oc_lt bh i v i hz; omega
    simp only [if_pos i6, nI_clamp (show i < 2 ^ 31 by omega), show vp_nar .boolean 1 = 1 by decide, show vp_nar .boolean 0 = 0 by decide, if_neg (nI_pos (show i < 2 ^ 31 by omega)), hm1]
    by_cases hx : x = nI i
    · have wi := hown p x h3 hx
      obtain ⟨t1, t2⟩ := hb i (by omega) p hp wi
      have hy : y ≠ nI i := fun e => by
        have := hown q y h4 e
        rw [wi] at this
        exact hpq (nI_inj (by omega) (by omega) this)
      simp only [if_pos ((hrx p x hp h3).mpr hx)]
      rw [t1]
      refine fin (bh i) y 1 t2 (hdown q y h4 hy) (fun r hr => ?_) ?_
      · rw [ox, ox, if_pos hx, if_neg hy, show (r == i) = false from beq_eq_false_iff_ne.mpr (by omega), Bool.false_or]
      · rw [ox, if_pos hx]; simp
    · simp only [if_neg (fun e => hx ((hrx p x hp h3).mp e))]
      by_cases hy : y = nI i
      · have wi := hown q y h4 hy
        obtain ⟨t1, t2⟩ := hb i (by omega) q hq wi
        simp only [if_pos ((hrx q y hq h4).mpr hy)]
        rw [t1]
        refine fin x (bh i) 1 (hdown p x h3 hx) t2 (fun r hr => ?_) ?_
        · rw [ox, ox, if_neg hx, if_pos hy, show (r == i) = false from beq_eq_false_iff_ne.mpr (by omega), Bool.false_or]
        · rw [ox y, if_pos hy]; simp
      · simp only [if_neg (fun e => hy ((hrx q y hq h4).mp e))]
        refine fin x y 0 (hdown p x h3 hx) (hdown q y h4 hy) (fun r hr => ?_) ?_
        · rw [ox, ox, if_neg hx, if_neg hy]
        · rw [ox, ox, if_neg hx, if_neg hy, noi, noi]; rfl
theorem fill_eq {n : Nat} (hn : n ≤ 81) (fu : Nat) : ∀ h g c : Nat, ∀ x : Nat → Int32, c + h = n → h < g → ∃ x', f_Ja_fill_L5 fu n g 0 (nI c) (nI n) x = some x' ∧ ∀ i, i < n → x' i = if c ≤ i then 0 else x i := by
  intro h
  induction h with
  | zero =>
    intro g c x h1 h2
    obtain ⟨g, rfl⟩ : ∃ g', g = g' + 1 := ⟨g - 1, by omega⟩
    refine ⟨x, ?_, fun i hi => by rw [if_neg (by omega)]⟩
    show fb_Ja_fill_L5 fu n (f_Ja_fill_L5 fu n g) 0 (nI c) (nI n) x = _
    unfold fb_Ja_fill_L5
    rw [if_pos (nI_le (by omega) (by omega))]
  | succ h ih =>
    intro g c x h1 h2
    obtain ⟨g, rfl⟩ : ∃ g', g = g' + 1 := ⟨g - 1, by omega⟩
    obtain ⟨x', k1, k2⟩ := ih g (c + 1) (upd x c 0) (by omega) (by omega)
    refine ⟨x', ?_, fun i hi => ?_⟩
    · show fb_Ja_fill_L5 fu n (f_Ja_fill_L5 fu n g) 0 (nI c) (nI n) x = _
      unfold fb_Ja_fill_L5
      rw [if_neg (nI_ge (by omega) (by omega)), if_pos (in_nI (show c < n by omega) (by omega)), nI_clamp (by omega), nI_1]
      exact k1
    · rw [k2 i hi]
      by_cases e : i = c
      · subst e; rw [if_neg (by omega), pk_us, if_pos (Nat.le_refl _)]
      · rw [pk_un e]
        by_cases e2 : c ≤ i
        · rw [if_pos (by omega), if_pos e2]
        · rw [if_neg (by omega), if_neg e2]
theorem clear_eq {n : Nat} (hn : n ≤ 81) {fu : Nat} (hfu : 1000 ≤ fu) (e x : Nat → Int32) : ∃ e' x', f_Bd_clear fu n e x = some (e', x') ∧ ∀ i, i < n → e' i = 0 ∧ x' i = 0 := by
  obtain ⟨e', k1, k2⟩ := fill_eq hn fu n fu 0 e (by omega) (by omega)
  obtain ⟨x', k3, k4⟩ := fill_eq hn fu n fu 0 x (by omega) (by omega)
  refine ⟨e', x', ?_, fun i hi => ⟨by rw [k2 i hi, if_pos (by omega)], by rw [k4 i hi, if_pos (by omega)]⟩⟩
  unfold f_Bd_clear f_Ja_fill
  rw [show f_Ja_fill_L5 fu n fu 0 0 (Int32.ofNat n) e = some e' from k1, obS, show f_Ja_fill_L5 fu n fu 0 0 (Int32.ofNat n) x = some x' from k3]
  rfl
