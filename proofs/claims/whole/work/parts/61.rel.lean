/-! rows on bits, shifts and unsigned numbers, to paste: each family out of a closed proof of our own, whole with what it rests on; each by itself clean at Lean in its own claim (generation 39, form 5). Take a family whole -/
/-! ===== Int32 by its bits: bt x i ===== -/
def bt (x : Int32) (i : Nat) : Bool := x.toBitVec.getLsbD i
theorem b_ext {x y : Int32} (h : ∀ i, i < 32 → bt x i = bt y i) : x = y := Int32.toBitVec_inj.mp (BitVec.eq_of_getLsbD_eq (fun i hi => h i hi))
theorem b_or (x y : Int32) (i : Nat) : bt (x ||| y) i = (bt x i || bt y i) := by unfold bt; rw [Int32.toBitVec_or, BitVec.getLsbD_or]
theorem b_and (x y : Int32) (i : Nat) : bt (x &&& y) i = (bt x i && bt y i) := by unfold bt; rw [Int32.toBitVec_and, BitVec.getLsbD_and]
theorem b_xor (x y : Int32) (i : Nat) : bt (x ^^^ y) i = (bt x i ^^ bt y i) := by unfold bt; rw [Int32.toBitVec_xor, BitVec.getLsbD_xor]
theorem b_big {x : Int32} {i : Nat} (h : 32 ≤ i) : bt x i = false := BitVec.getLsbD_of_ge _ _ h
theorem b_255 (i : Nat) : bt 255 i = decide (i < 8) := by
  rcases Nat.lt_or_ge i 32 with h | h
  · exact (by decide +kernel : ∀ i, i < 32 → bt 255 i = decide (i < 8)) i h
  · rw [b_big h, decide_eq_false (by omega)]
theorem b_65535 (i : Nat) : bt 65535 i = decide (i < 16) := by
  rcases Nat.lt_or_ge i 32 with h | h
  · exact (by decide +kernel : ∀ i, i < 32 → bt 65535 i = decide (i < 16)) i h
  · rw [b_big h, decide_eq_false (by omega)]
theorem b_m1 : ∀ i, i < 32 → bt (-1) i = true := by decide +kernel
theorem b_0 (i : Nat) : bt 0 i = false := BitVec.getLsbD_zero
theorem s_l : ∀ n, n < 32 → ((nI n &&& 31).toBitVec.smod 32).toNat = n := by decide +kernel
theorem s_u : ∀ n, n < 32 → (((nI n).toUInt32 &&& Int32.toUInt32 31).toBitVec % 32).toNat = n := by decide +kernel
theorem b_shl (n : Nat) (hn : n < 32) (x : Int32) {i : Nat} (hi : i < 32) : bt (x <<< (nI n &&& 31)) i = (decide (n ≤ i) && bt x (i - n)) := by
  unfold bt
  rw [Int32.toBitVec_shiftLeft]
  show (x.toBitVec <<< ((nI n &&& 31).toBitVec.smod 32).toNat).getLsbD i = _
  rw [s_l n hn, BitVec.getLsbD_shiftLeft]
  rcases Nat.lt_or_ge i n with h | h
  · simp [h, Nat.not_le.mpr h]
  · simp [hi, h, Nat.not_lt.mpr h]
theorem b_ushr (n : Nat) (hn : n < 32) (x : Int32) (i : Nat) : bt ((x.toUInt32 >>> ((nI n).toUInt32 &&& Int32.toUInt32 31)).toInt32) i = bt x (n + i) := by
  show (x.toUInt32 >>> ((nI n).toUInt32 &&& Int32.toUInt32 31)).toBitVec.getLsbD i = x.toUInt32.toBitVec.getLsbD (n + i)
  rw [UInt32.toBitVec_shiftRight]
  show (x.toUInt32.toBitVec >>> (((nI n).toUInt32 &&& Int32.toUInt32 31).toBitVec % 32).toNat).getLsbD i = _
  rw [s_u n hn, BitVec.getLsbD_ushiftRight]
theorem b_sshr (n : Nat) (hn : n < 32) (x : Int32) {i : Nat} (hi : i < 32) : bt (x >>> (nI n &&& 31)) i = if n + i < 32 then bt x (n + i) else bt x 31 := by
  unfold bt
  rw [Int32.toBitVec_shiftRight]
  show (x.toBitVec.sshiftRight ((nI n &&& 31).toBitVec.smod 32).toNat).getLsbD i = _
  rw [s_l n hn, BitVec.getLsbD_sshiftRight, BitVec.msb_eq_getLsbD_last]
  simp [hi]

theorem b_bit : ∀ v, v < 32 → ∀ i, i < 32 → bt (bit v) i = decide (i = v) := by decide +kernel
/-- a set of marks: bits 1 to 9 alone -/
def VMk (x : Int32) : Prop := ∀ i, i < 32 → bt x i = true → 1 ≤ i ∧ i ≤ 9
theorem VMk_0 : VMk 0 := fun i _ h => by rw [b_0] at h; cases h
theorem VMk_or {x : Int32} {v : Nat} (h : VMk x) (h1 : 1 ≤ v) (h2 : v ≤ 9) : VMk (x ||| bit v) := fun i hi hb => by
  rw [b_or, b_bit v (by omega) i hi] at hb
  by_cases hx : bt x i = true
  · exact h i hi hx
  · rw [Bool.not_eq_true] at hx
    rw [hx, Bool.false_or, decide_eq_true_eq] at hb
    omega
theorem VMk_and {x y : Int32} (h : VMk x) : VMk (x &&& y) := fun i hi hb => by
  rw [b_and, Bool.and_eq_true] at hb
  exact h i hi hb.1
theorem mk_bit {x : Int32} {v : Nat} (hv : v < 32) : x &&& bit v = 0 ↔ bt x v = false := by
  constructor
  · intro h
    have h1 : bt (x &&& bit v) v = bt 0 v := by rw [h]
    rw [b_and, b_bit v hv v hv, b_0, decide_eq_true rfl, Bool.and_true] at h1
    exact h1
  · intro h
    refine b_ext fun i hi => ?_
    rw [b_and, b_bit v hv i hi, b_0]
    by_cases hiv : i = v
    · subst hiv; rw [h, Bool.false_and]
    · rw [decide_eq_false hiv, Bool.and_false]
theorem b_one : ∀ i, i < 32 → bt 1 i = decide (i = 0) := by decide +kernel
theorem mk_shr {x : Int32} {v : Nat} (hv : v < 31) : ((x >>> (nI v &&& 31)) &&& 1 = 1) ↔ bt x v = true := by
  have hb : ∀ i, i < 32 → bt ((x >>> (nI v &&& 31)) &&& 1) i = (decide (i = 0) && bt x v) := fun i hi => by
    rw [b_and, b_sshr v (by omega) x hi, b_one i hi]
    by_cases h0 : i = 0
    · subst h0; rw [if_pos (by omega), decide_eq_true rfl, Bool.and_true, Bool.true_and]; rfl
    · rw [decide_eq_false h0, Bool.and_false, Bool.false_and]
  constructor
  · intro h
    have h1 := hb 0 (by decide)
    rw [h, b_one 0 (by decide), decide_eq_true rfl, Bool.true_and] at h1
    exact h1.symm
  · intro h
    refine b_ext fun i hi => ?_
    rw [hb i hi, h, Bool.and_true, b_one i hi]
theorem mk_shr0 {x : Int32} {v : Nat} (hv : v < 31) (h : bt x v = false) : (x >>> (nI v &&& 31)) &&& 1 = 0 := by
  refine b_ext fun i hi => ?_
  rw [b_and, b_sshr v (by omega) x hi, b_one i hi, b_0]
  by_cases h0 : i = 0
  · subst h0; rw [if_pos (by omega), Nat.add_zero, h, Bool.false_and]
  · rw [decide_eq_false h0, Bool.and_false]
def V10 (x : Int32) : Prop := ∃ d : Nat, d ≤ 9 ∧ x = nI d
def VCd (x : Int32) : Prop := ∃ d : Nat, d < 30 ∧ d ≠ 10 ∧ d ≠ 20 ∧ x = nI d
/-- the class's name of a root, the reference's -1 -/
def rt (j : Nat) (x : Int32) : Int32 := if x = -1 then -1 - nI j else x
theorem nI_m1 {r : Nat} (h : r < 2 ^ 31) : ¬ nI r = -1 := fun e => by
  have h1 := congrArg Int32.toInt e
  rw [nI_toInt h] at h1
  have h2 : (-1 : Int32).toInt = -1 := by decide
  omega
theorem rt_n {j r : Nat} (h : r < 2 ^ 31) : rt j (nI r) = nI r := if_neg (nI_m1 h)
theorem rt_m {j : Nat} : rt j (-1) = -1 - nI j := if_pos rfl
def RP (n m j : Nat) (pr hc : Int32) (en mk : Nat → Int32) (ru : Int32) (lt ct : Int64) (men mmk : Nat → Int32) (mpr mhp mru : Int32) (mct mtd : Int64) (mwh : Nat → Int32) : Prop :=
  (∀ c, c < n → en c = men (81 * j + c) ∧ V10 (men (81 * j + c)) ∧ mk c = mmk (81 * j + c) ∧ VMk (mmk (81 * j + c))) ∧ hc = mhp ∧ ru = mru ∧ (mru = 0 ∨ mru = 1) ∧ ct = mct ∧ ((mtd = -1 ∧ lt = 0 ∧ mru = 0) ∨ (0 ≤ mtd ∧ lt = mtd)) ∧ pr = rt j mpr ∧ (mpr = -1 ∨ ∃ r, r < m ∧ mpr = nI r ∧ mwh r = nI j)
def RR (n k r : Nat) (tp tt tb th : Int32) (mwh : Nat → Int32) (mwe mwt mbf mbh : Int32) : Prop :=
  tp = mwe ∧ tt = mwt ∧ (∃ c, c < n ∧ mwe = nI c) ∧ VCd mwt ∧ (∃ j, j < k ∧ mwh r = nI j ∧ th = rt j mbh ∧ (mbh = -1 ∨ ∃ q, q < r ∧ mbh = nI q ∧ mwh q = nI j)) ∧ (∀ d, d < 10 → mwt = nI d → tb = mbf ∧ V10 mbf) ∧ (∀ d, 10 < d → d < 20 → mwt = nI d → tb = nI (d + 10)) ∧ (∀ d, 20 < d → d < 30 → mwt = nI d → tb = nI (d - 10))
def RF (j : Nat) (men mmk : Nat → Int32) (mhp mru : Int32) (mct mtd : Int64) : Prop :=
  (∀ c, c < 81 → men (81 * j + c) = 0 ∧ mmk (81 * j + c) = 0) ∧ mhp = 0 ∧ mru = 0 ∧ mct = 0 ∧ mtd = -1
def Rel (n k m u : Nat) (pa : Nat → Nat → Nat) (ri : Nat → Int32) (ps : Nat → Option Nat) (tp tt tb th un : Nat → Int32) (PR HC : Nat → Int32) (EN MK : Nat → Nat → Int32) (RU : Nat → Int32) (LT CT : Nat → Int64) (mtr men mmk mpr mhp : Nat → Int32) (mct mtd : Nat → Int64) (mru mwh mwe mwt mbf mbh mtx : Nat → Int32) : Prop :=
  (1 ≤ n ∧ n ≤ 81 ∧ k ≤ 8 ∧ m ≤ 600 ∧ u ≤ 1000) ∧ (∀ c, c < n → ri c = mtr c ∧ V10 (mtr c)) ∧ (∀ j, j < k → ps j = some (pa j 0)) ∧ (∀ j, j < k → RP n m j (PR j) (HC j) (EN j) (MK j) (RU j) (LT j) (CT j) men mmk (mpr j) (mhp j) (mru j) (mct j) (mtd j) mwh) ∧ (∀ r, r < m → RR n k r (tp r) (tt r) (tb r) (th r) mwh (mwe r) (mwt r) (mbf r) (mbh r)) ∧ (∀ j, k ≤ j → j < 8 → RF j men mmk (mhp j) (mru j) (mct j) (mtd j)) ∧ (∀ i, i < u → un i = mtx i ∧ ∃ b, b ≤ 255 ∧ mtx i = nI b)
theorem pE_ne {d q i : Nat} {en : Nat → Int32} (h : i ≠ q) : pE d en q i = en i := by
  unfold pE
  split
  · exact pk_un h
  · rfl
theorem pM_ne {d q i : Nat} {mk : Nat → Int32} (h : i ≠ q) : pM d mk q i = mk i := by
  unfold pM
  split
  · rfl
  · split
    · exact pk_un h
    · exact pk_un h
theorem pE_at {d q : Nat} {en : Nat → Int32} : pE d en q q = if d < 10 then nI d else en q := by
  unfold pE
  split
  · exact pk_us
  · rfl
theorem pM_at {d q : Nat} {mk : Nat → Int32} : pM d mk q q = if d < 10 then mk q else if d < 20 then mk q ||| bit (d - 10) else mk q &&& (bit (d - 20) ^^^ (-1)) := by
  unfold pM
  split
  · rfl
  · split
    · exact pk_us
    · exact pk_us
theorem V10_pE {d q i : Nat} {en : Nat → Int32} (h : V10 (en i)) : V10 (pE d en q i) := by
  by_cases hi : i = q
  · subst hi; rw [pE_at]
    by_cases hd : d < 10
    · rw [if_pos hd]; exact ⟨d, by omega, rfl⟩
    · rw [if_neg hd]; exact h
  · rw [pE_ne hi]; exact h
theorem VMk_pM {d q i : Nat} {mk : Nat → Int32} (hd : d < 30) (h10 : d ≠ 10) (h : VMk (mk i)) : VMk (pM d mk q i) := by
  by_cases hi : i = q
  · subst hi; rw [pM_at]
    by_cases hd1 : d < 10
    · rw [if_pos hd1]; exact h
    · rw [if_neg hd1]
      by_cases hd2 : d < 20
      · rw [if_pos hd2]; exact VMk_or h (by omega) (by omega)
      · rw [if_neg hd2]; exact VMk_and h
  · rw [pM_ne hi]; exact h
theorem asI_val {d : Nat} {e x : Int32} (hd : d < 30) (hne : asI d e x ≠ nI d) : asI d e x = if d < 10 then e else if d < 20 then nI (d + 10) else nI (d - 10) := by
  unfold asI at *
  by_cases h1 : d < 10
  · rw [if_pos h1, if_pos h1]
  · rw [if_neg h1] at hne; rw [if_neg h1, if_neg h1]
    by_cases h2 : d < 20
    · rw [if_pos h2] at hne; rw [if_pos h2, if_pos h2]
      by_cases h3 : x &&& bit (d - 10) = 0
      · rw [if_pos h3]
      · rw [if_neg h3] at hne; exact absurd rfl hne
    · rw [if_neg h2] at hne; rw [if_neg h2, if_neg h2]
      by_cases h3 : x &&& bit (d - 20) = 0
      · rw [if_pos h3] at hne; exact absurd rfl hne
      · rw [if_neg h3]
theorem nI_inj {a b : Nat} (ha : a < 2 ^ 31) (hb : b < 2 ^ 31) (h : nI a = nI b) : a = b := (nI_eq ha hb).mp h
/-- a row of person j at place c -/
theorem Rel_row {n k m u : Nat} {pa : Nat → Nat → Nat} {ri : Nat → Int32} {ps : Nat → Option Nat} {tp tt tb th un : Nat → Int32} {PR HC : Nat → Int32} {EN MK : Nat → Nat → Int32} {RU : Nat → Int32} {LT CT : Nat → Int64} {mtr men mmk mpr mhp : Nat → Int32} {mct mtd : Nat → Int64} {mru mwh mwe mwt mbf mbh mtx : Nat → Int32}
    (hR : Rel n k m u pa ri ps tp tt tb th un PR HC EN MK RU LT CT mtr men mmk mpr mhp mct mtd mru mwh mwe mwt mbf mbh mtx) {j c d : Nat} (hj : j < k) (hc : c < n) (hd : d < 30) (h10 : d ≠ 10) (h20 : d ≠ 20) (hne : asI d (EN j c) (MK j c) ≠ nI d) (hm : m < 600) :
    Rel n k (m + 1) u pa ri ps (upd tp m (nI c)) (upd tt m (nI d)) (upd tb m (asI d (EN j c) (MK j c))) (upd th m (PR j)) un (va_up PR j (nI m)) HC (va_up EN j (pE d (EN j) c)) (va_up MK j (pM d (MK j) c)) RU LT CT mtr (pE d men (81 * j + c)) (pM d mmk (81 * j + c)) (upd mpr j (nI m)) mhp mct mtd mru (upd mwh m (nI j)) (upd mwe m (nI c)) (upd mwt m (nI d)) (upd mbf m (men (81 * j + c))) (upd mbh m (mpr j)) mtx := by
  obtain ⟨⟨n1, n81, k8, m6, u1⟩, hT, hps, hP, hRw, hF, hU⟩ := hR
  refine ⟨⟨n1, n81, k8, by omega, u1⟩, hT, hps, fun i hi => ?_, fun r hr => ?_, fun i h1 h2 => ?_, hU⟩
  · obtain ⟨q1, q2, q3, q4, q5, q6, q7, q8⟩ := hP i hi
    by_cases hij : i = j
    · subst hij
      rw [va_up_self, va_up_self, va_up_self, pk_us]
      refine ⟨fun x hx => ?_, q2, q3, q4, q5, q6, (rt_n (by omega)).symm, Or.inr ⟨m, by omega, rfl, pk_us⟩⟩
      obtain ⟨a1, a2, a3, a4⟩ := q1 x hx
      refine ⟨?_, V10_pE a2, ?_, VMk_pM hd h10 a4⟩
      · by_cases hxc : x = c
        · subst hxc; rw [pE_at, pE_at, a1]
        · rw [pE_ne hxc, pE_ne (by omega), a1]
      · by_cases hxc : x = c
        · subst hxc; rw [pM_at, pM_at, a3]
        · rw [pM_ne hxc, pM_ne (by omega), a3]
    · rw [va_up_ne _ _ hij, va_up_ne _ _ hij, va_up_ne _ _ hij, pk_un hij]
      refine ⟨fun x hx => ?_, q2, q3, q4, q5, q6, q7, ?_⟩
      · obtain ⟨a1, a2, a3, a4⟩ := q1 x hx
        rw [pE_ne (show 81 * i + x ≠ 81 * j + c by omega), pM_ne (show 81 * i + x ≠ 81 * j + c by omega)]
        exact ⟨a1, a2, a3, a4⟩
      · rcases q8 with q8 | ⟨r, r1, r2, r3⟩
        · exact Or.inl q8
        · exact Or.inr ⟨r, by omega, r2, by rw [pk_un (by omega)]; exact r3⟩
  · by_cases hrm : r = m
    · subst hrm
      rw [pk_us, pk_us, pk_us, pk_us, pk_us, pk_us, pk_us, pk_us]
      obtain ⟨q1, q2, q3, q4, q5, q6, q7, q8⟩ := hP j hj
      obtain ⟨a1, a2, a3, a4⟩ := q1 c hc
      refine ⟨rfl, rfl, ⟨c, hc, rfl⟩, ⟨d, hd, h10, h20, rfl⟩, ⟨j, hj, pk_us, q7, ?_⟩, fun e he hde => ?_, fun e he he2 hde => ?_, fun e he he2 hde => ?_⟩
      · rcases q8 with q8 | ⟨q, r1, r2, r3⟩
        · exact Or.inl q8
        · exact Or.inr ⟨q, r1, r2, by rw [pk_un (by omega)]; exact r3⟩
      · have := nI_inj (by omega) (by omega) hde
        subst this
        rw [asI_val hd hne, if_pos he, a1]
        exact ⟨rfl, a2⟩
      · have := nI_inj (by omega) (by omega) hde
        subst this
        rw [asI_val hd hne, if_neg (by omega), if_pos he2]
      · have := nI_inj (by omega) (by omega) hde
        subst this
        rw [asI_val hd hne, if_neg (by omega), if_neg (by omega)]
    · rw [pk_un hrm, pk_un hrm, pk_un hrm, pk_un hrm, pk_un hrm, pk_un hrm, pk_un hrm, pk_un hrm]
      obtain ⟨q1, q2, q3, q4, ⟨i, q5, q6, q7, q8⟩, q9⟩ := hRw r (by omega)
      refine ⟨q1, q2, q3, q4, ⟨i, q5, by rw [pk_un hrm]; exact q6, q7, ?_⟩, q9⟩
      rcases q8 with q8 | ⟨q, r1, r2, r3⟩
      · exact Or.inl q8
      · exact Or.inr ⟨q, r1, r2, by rw [pk_un (by omega)]; exact r3⟩
  · obtain ⟨q1, q2⟩ := hF i h1 h2
    refine ⟨fun x hx => ?_, q2⟩
    rw [pE_ne (by omega), pM_ne (by omega)]
    exact q1 x hx
/-- a new person -/
theorem Rel_new {n k m u : Nat} {pa : Nat → Nat → Nat} {ri : Nat → Int32} {ps : Nat → Option Nat} {tp tt tb th un : Nat → Int32} {PR HC : Nat → Int32} {EN MK : Nat → Nat → Int32} {RU : Nat → Int32} {LT CT : Nat → Int64} {mtr men mmk mpr mhp : Nat → Int32} {mct mtd : Nat → Int64} {mru mwh mwe mwt mbf mbh mtx : Nat → Int32}
    (hR : Rel n k m u pa ri ps tp tt tb th un PR HC EN MK RU LT CT mtr men mmk mpr mhp mct mtd mru mwh mwe mwt mbf mbh mtx) (hk : k < 8) (b : Nat → Nat) :
    Rel n (k + 1) m u (va_up pa k b) ri (va_up ps k (some (b 0))) tp tt tb th un (va_up PR k (-1 - nI k)) (va_up HC k 0) (va_up EN k (fun _ => 0)) (va_up MK k (fun _ => 0)) (va_up RU k 0) (va_up LT k 0) (va_up CT k 0) mtr men mmk (upd mpr k (-1)) mhp mct mtd mru mwh mwe mwt mbf mbh mtx := by
  obtain ⟨⟨n1, n81, k8, m6, u1⟩, hT, hps, hP, hRw, hF, hU⟩ := hR
  refine ⟨⟨n1, n81, by omega, m6, u1⟩, hT, fun i hi => ?_, fun i hi => ?_, fun r hr => ?_, fun i h1 h2 => hF i (by omega) h2, hU⟩
  · by_cases hik : i = k
    · subst hik; rw [va_up_self, va_up_self]
    · rw [va_up_ne _ _ hik, va_up_ne _ _ hik]; exact hps i (by omega)
  · by_cases hik : i = k
    · subst hik
      rw [va_up_self, va_up_self, va_up_self, va_up_self, va_up_self, va_up_self, va_up_self, pk_us]
      obtain ⟨q1, q2, q3, q4, q5⟩ := hF i (Nat.le_refl _) hk
      refine ⟨fun c hc => ?_, q2.symm, q3.symm, Or.inl q3, q4.symm, Or.inl ⟨q5, rfl, q3⟩, rt_m.symm, Or.inl rfl⟩
      obtain ⟨a1, a2⟩ := q1 c (by omega)
      rw [a1, a2]
      exact ⟨rfl, ⟨0, by omega, rfl⟩, rfl, VMk_0⟩
    · rw [va_up_ne _ _ hik, va_up_ne _ _ hik, va_up_ne _ _ hik, va_up_ne _ _ hik, va_up_ne _ _ hik, va_up_ne _ _ hik, va_up_ne _ _ hik, pk_un hik]
      exact hP i (by omega)
  · obtain ⟨q1, q2, q3, q4, ⟨i, q5, q6, q7, q8⟩, q9⟩ := hRw r hr
    exact ⟨q1, q2, q3, q4, ⟨i, by omega, q6, q7, q8⟩, q9⟩
