/-! the pure side: what the small functions are, over natural numbers -/
theorem le_L {a d : Nat} {x : Int32} (hx : x = nI a) (ha : a < 2 ^ 31) (hd : d < 2 ^ 31) : (x ≤ nI d) ↔ a ≤ d := by subst hx; exact nI_leI ha hd
theorem lt_L {a d : Nat} {x : Int32} (hx : x = nI a) (ha : a < 2 ^ 31) (hd : d < 2 ^ 31) : (x < nI d) ↔ a < d := by subst hx; exact nI_ltI ha hd
theorem lt_R {a d : Nat} {x : Int32} (hx : x = nI a) (ha : a < 2 ^ 31) (hd : d < 2 ^ 31) : (nI d < x) ↔ d < a := by subst hx; exact nI_ltI hd ha
theorem le_R {a d : Nat} {x : Int32} (hx : x = nI a) (ha : a < 2 ^ 31) (hd : d < 2 ^ 31) : (nI d ≤ x) ↔ d ≤ a := by subst hx; exact nI_leI hd ha
theorem eq_R {a d : Nat} {x : Int32} (hx : x = nI a) (ha : a < 2 ^ 31) (hd : d < 2 ^ 31) : (nI d = x) ↔ d = a := by subst hx; exact nI_eq hd ha
theorem le10 {d : Nat} (h : d < 2 ^ 31) : ((10 : Int32) ≤ nI d) ↔ 10 ≤ d := le_L (x := 10) (a := 10) rfl (by decide) h
theorem le20 {d : Nat} (h : d < 2 ^ 31) : ((20 : Int32) ≤ nI d) ↔ 20 ≤ d := le_L (x := 20) (a := 20) rfl (by decide) h
theorem in_nI {c N : Nat} (h : c < N) (hN : N < 2 ^ 31) : inB (nI c) N := nI_in h hN
theorem k81 {j c : Nat} : ((81 : Int32) * nI j + nI c) = nI (81 * j + c) := by
  rw [show (81 : Int32) = nI 81 from rfl, pk_mul, nI_add]
def bit (v : Nat) : Int32 := (1 : Int32) <<< (nI v &&& 31)
/-- what would have to be told for all to stay -/
def asI (d : Nat) (e x : Int32) : Int32 := if d < 10 then e else if d < 20 then (if x &&& bit (d - 10) = 0 then nI (d + 10) else nI d) else (if x &&& bit (d - 20) = 0 then nI d else nI (d - 10))
def pE (d : Nat) (en : Nat → Int32) (q : Nat) : Nat → Int32 := if d < 10 then upd en q (nI d) else en
def pM (d : Nat) (mk : Nat → Int32) (q : Nat) : Nat → Int32 := if d < 10 then mk else if d < 20 then upd mk q (mk q ||| bit (d - 10)) else upd mk q (mk q &&& (bit (d - 20) ^^^ (-1)))
theorem hasMark_eq {n c v : Nat} (mk : Nat → Int32) (hc : c < n) (hn : n ≤ 81) : f_Bd_hasMark n (nI c) (nI v) mk = some (if mk c &&& bit v = 0 then 0 else 1) := by
  unfold f_Bd_hasMark
  rw [if_pos (in_nI hc (by omega)), nI_clamp (by omega)]
  show (if mk c &&& bit v = 0 then _ else _) = _
  split <;> rfl
theorem asItIs_eq {n c d : Nat} (en mk : Nat → Int32) (hc : c < n) (hn : n ≤ 81) (hd : d < 30) : f_Bd_asItIs n (nI c) (nI d) en mk = some (asI d (en c) (mk c)) := by
  unfold f_Bd_asItIs asI
  by_cases h1 : d < 10
  · rw [if_neg (by rw [le10 (by omega)]; omega), if_pos (in_nI hc (by omega)), nI_clamp (by omega), if_pos h1]
  · rw [if_pos (by rw [le10 (by omega)]; omega), if_neg h1]
    by_cases h2 : d < 20
    · rw [if_neg (by rw [le20 (by omega)]; omega), if_pos h2, show nI d - (10 : Int32) = nI (d - 10) from pk_sub (b := 10) (by omega), hasMark_eq mk hc hn]
      show (if (if mk c &&& bit (d - 10) = 0 then (0 : Int32) else 1) = 0 then _ else _) = _
      rw [show (20 : Int32) + nI (d - 10) = nI (d + 10) by rw [show (20 : Int32) = nI 20 from rfl, nI_add]; congr 1; omega, show (10 : Int32) + nI (d - 10) = nI d by rw [show (10 : Int32) = nI 10 from rfl, nI_add]; congr 1; omega]
      by_cases h3 : mk c &&& bit (d - 10) = 0
      · rw [if_pos h3, if_pos rfl, if_pos h3]
      · rw [if_neg h3, if_neg (by decide), if_neg h3]
    · rw [if_pos (by rw [le20 (by omega)]; omega), if_neg h2, show nI d - (20 : Int32) = nI (d - 20) from pk_sub (b := 20) (by omega), hasMark_eq mk hc hn]
      show (if (if mk c &&& bit (d - 20) = 0 then (0 : Int32) else 1) = 0 then _ else _) = _
      rw [show (20 : Int32) + nI (d - 20) = nI d by rw [show (20 : Int32) = nI 20 from rfl, nI_add]; congr 1; omega, show (10 : Int32) + nI (d - 20) = nI (d - 10) by rw [show (10 : Int32) = nI 10 from rfl, nI_add]; congr 1; omega]
      by_cases h3 : mk c &&& bit (d - 20) = 0
      · rw [if_pos h3, if_pos rfl, if_pos h3]
      · rw [if_neg h3, if_neg (by decide), if_neg h3]
theorem put_eq {n c d : Nat} (en mk : Nat → Int32) (hc : c < n) (hn : n ≤ 81) (hd : d < 30) : f_Bd_put n (nI c) (nI d) en mk = some (pE d en c, pM d mk c) := by
  unfold f_Bd_put pE pM
  have hi : inB (nI c) n := in_nI hc (by omega)
  by_cases h1 : d < 10
  · rw [if_neg (by rw [le10 (by omega)]; omega), if_pos hi, nI_clamp (by omega), if_pos h1, if_pos h1]
  · rw [if_pos (by rw [le10 (by omega)]; omega), if_neg h1, if_neg h1]
    by_cases h2 : d < 20
    · rw [if_neg (by rw [le20 (by omega)]; omega), if_pos hi, if_pos hi, if_pos h2, nI_clamp (by omega), show nI d - (10 : Int32) = nI (d - 10) from pk_sub (b := 10) (by omega)]
      rfl
    · rw [if_pos (by rw [le20 (by omega)]; omega), if_pos hi, if_pos hi, if_neg h2, nI_clamp (by omega), show nI d - (20 : Int32) = nI (d - 20) from pk_sub (b := 20) (by omega)]
      rfl
theorem room_eq {m a : Nat} (hm : m ≤ 600) (ha : a < 2 ^ 30) : f_Rt_hasRoomFor (nI a) (nI m) = some (if m + a ≤ 600 then 1 else 0) := by
  unfold f_Rt_hasRoomFor
  rw [show (600 : Int32) - nI m = nI (600 - m) from pk_sub (a := 600) hm]
  by_cases h : m + a ≤ 600
  · rw [if_neg (by rw [nI_ltI (by omega) (by omega)]; omega), if_pos h]
  · rw [if_pos (by rw [nI_ltI (by omega) (by omega)]; omega), if_neg h]
theorem add_eq {m : Nat} (c d b q : Int32) (tp tt tb th : Nat → Int32) (hm : m < 600) : f_Rt_add c d b q (nI m) tp tt tb th = some (nI m, nI (m + 1), upd tp m c, upd tt m d, upd tb m b, upd th m q) := by
  unfold f_Rt_add
  have hi : inB (nI m) 600 := in_nI hm (by decide)
  rw [if_pos hi, if_pos hi, if_pos hi, if_pos hi, nI_clamp (by omega), nI_1]
theorem tell_eq {n c d m : Nat} (pc kc uc : Int32) (tp tt tb th : Nat → Int32) (nu pr hc : Int32) (en mk : Nat → Int32) (hcn : c < n) (hn : n ≤ 81) (hd : d < 30) (hm : m ≤ 600) :
    f_PS_tell n (nI c) (nI d) pc kc uc (nI m) tp tt tb th nu pr hc en mk = if asI d (en c) (mk c) = nI d ∨ m = 600 then some (-1, nI m, tp, tt, tb, th, pr, en, mk) else some (nI m, nI (m + 1), upd tp m (nI c), upd tt m (nI d), upd tb m (asI d (en c) (mk c)), upd th m pr, nI m, pE d en c, pM d mk c) := by
  unfold f_PS_tell
  rw [asItIs_eq en mk hcn hn hd]
  show (if asI d (en c) (mk c) = nI d then _ else _) = _
  by_cases h1 : asI d (en c) (mk c) = nI d
  · rw [if_pos h1, if_pos (Or.inl h1)]
  · rw [if_neg h1, show (1 : Int32) = nI 1 from rfl, room_eq hm (by decide)]
    show (if (if m + 1 ≤ 600 then (1 : Int32) else 0) = 0 then _ else _) = _
    by_cases h2 : m = 600
    · rw [if_neg (show ¬ m + 1 ≤ 600 by omega), if_pos rfl, if_pos (Or.inr h2)]
    · rw [if_pos (show m + 1 ≤ 600 by omega), if_neg (by decide), if_neg (fun h => h.elim h1 h2), add_eq _ _ _ _ _ _ _ _ (by omega)]
      show Option.bind (f_Bd_put n (nI c) (nI d) en mk) _ = _
      rw [put_eq en mk hcn hn hd]
      rfl
theorem act_eq {j c d : Nat} (a b q m s t o f : Int32) (en mk : Nat → Int32) (hj : j < 8) (hc : c < 81) (hd : d < 30) : f_Md_act (nI j) (nI c) (nI d) a b q m s t o f en mk = some (pE d en (81 * j + c), pM d mk (81 * j + c)) := by
  unfold f_Md_act pE pM
  rw [k81]
  have hi : inB (nI (81 * j + c)) 648 := in_nI (by omega) (by decide)
  by_cases h1 : d < 10
  · rw [if_neg (by rw [le10 (by omega)]; omega), if_pos hi, nI_clamp (by omega), if_pos h1, if_pos h1]
  · rw [if_pos (by rw [le10 (by omega)]; omega), if_neg h1, if_neg h1]
    by_cases h2 : d < 20
    · rw [if_neg (by rw [le20 (by omega)]; omega), if_pos hi, if_pos hi, if_pos h2, nI_clamp (by omega), show nI d - (10 : Int32) = nI (d - 10) from pk_sub (b := 10) (by omega)]
      rfl
    · rw [if_pos (by rw [le20 (by omega)]; omega), if_pos hi, if_pos hi, if_neg h2, nI_clamp (by omega), show nI d - (20 : Int32) = nI (d - 20) from pk_sub (b := 20) (by omega)]
      rfl
theorem addRow_eq {j c d m : Nat} (a b q s t o f : Int32) (en mk pr wh we wt bf bh : Nat → Int32) (hj : j < 8) (hc : c < 81) (hd : d < 30) (hm : m < 600) :
    f_Md_addRow (nI j) (nI c) (nI d) a b q (nI m) s t o f en mk pr wh we wt bf bh = some (nI m, nI (m + 1), pE d en (81 * j + c), pM d mk (81 * j + c), upd pr j (nI m), upd wh m (nI j), upd we m (nI c), upd wt m (nI d), upd bf m (en (81 * j + c)), upd bh m (pr j)) := by
  unfold f_Md_addRow
  have hi : inB (nI m) 600 := in_nI hm (by decide)
  have hj8 : inB (nI j) 8 := in_nI hj (by decide)
  rw [act_eq a b q _ s t o f en mk hj hc hd, k81]
  have h6 : inB (nI (81 * j + c)) 648 := in_nI (by omega) (by decide)
  rw [if_pos hi, if_pos hi, if_pos hi, if_pos h6, if_pos hi, if_pos hj8, if_pos hi]
  show (if inB (nI j) 8 then _ else _) = _
  rw [if_pos hj8, nI_clamp (by omega), nI_clamp (by omega), nI_clamp (by omega), nI_1, show (1 : Int32) = nI 1 from rfl, pk_sub (by omega)]
  rfl
theorem place_y {n c : Nat} (kc uc : Int32) (hc : c < n) (hn : n ≤ 81) : f_PS_isPlace (nI c) (nI n) kc uc = some 1 := by
  unfold f_PS_isPlace
  rw [if_neg (nI_pos (by omega)), if_neg (nI_ge hc (by omega))]
theorem place_n {n : Nat} {c : Int32} (kc uc : Int32) (h : c < 0 ∨ nI n ≤ c) : f_PS_isPlace c (nI n) kc uc = some 0 := by
  unfold f_PS_isPlace
  by_cases h1 : c < 0
  · rw [if_pos h1]
  · rw [if_neg h1, if_pos (h.resolve_left h1)]
theorem mplace_y {n c : Nat} (a q m s t o f : Int32) (hc : c < n) (hn : n ≤ 81) : f_Md_isPlace (nI c) a (nI n) q m s t o f = some 1 := by
  unfold f_Md_isPlace
  rw [if_neg (nI_pos (by omega)), if_neg (nI_ge hc (by omega))]
theorem mplace_n {n : Nat} {c : Int32} (a q m s t o f : Int32) (h : c < 0 ∨ nI n ≤ c) : f_Md_isPlace c a (nI n) q m s t o f = some 0 := by
  unfold f_Md_isPlace
  by_cases h1 : c < 0
  · rw [if_pos h1]
  · rw [if_neg h1, if_pos (h.resolve_left h1)]
theorem mpers_y {k j : Nat} (a b m s t o f : Int32) (hj : j < k) (hk : k ≤ 8) : f_Md_isPerson (nI j) a b (nI k) m s t o f = some 1 := by
  unfold f_Md_isPerson
  rw [if_neg (nI_pos (by omega)), if_neg (nI_ge hj (by omega))]
theorem mpers_n {k : Nat} {p : Int32} (a b m s t o f : Int32) (h : p < 0 ∨ nI k ≤ p) : f_Md_isPerson p a b (nI k) m s t o f = some 0 := by
  unfold f_Md_isPerson
  by_cases h1 : p < 0
  · rw [if_pos h1]
  · rw [if_neg h1, if_pos (h.resolve_left h1)]
theorem find_n {k : Nat} {p : Int32} (pc uc : Int32) (ps : Nat → Option Nat) (h : p < 0 ∨ nI k ≤ p) : f_PS_find p pc (nI k) uc ps = some none := by
  unfold f_PS_find
  by_cases h1 : p < 0
  · rw [if_pos h1]
  · rw [if_neg h1, if_pos (h.resolve_left h1)]
theorem find_y {k j : Nat} (pc uc : Int32) (ps : Nat → Option Nat) (hj : j < k) (hk : k ≤ 8) : f_PS_find (nI j) pc (nI k) uc ps = some (ps j) := by
  unfold f_PS_find
  rw [if_neg (nI_pos (by omega)), if_neg (nI_ge hj (by omega)), if_pos (in_nI (show j < 8 by omega) (by decide)), nI_clamp (by omega)]
theorem ix_or (x : Int32) {n : Nat} (hn : n < 2 ^ 31) : (x < 0 ∨ nI n ≤ x) ∨ ∃ j : Nat, j < n ∧ x = nI j := by
  rcases pk_ix x hn with h | h | h
  · exact Or.inl (Or.inl h)
  · exact Or.inl (Or.inr h)
  · exact Or.inr h
