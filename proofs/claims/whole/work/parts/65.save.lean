/-! save: the text of a board -/
def mkF (x : Int32) : Nat → Nat → List Nat
  | 0, _ => []
  | g + 1, v => if bt x v = true then v :: mkF x g (v + 1) else mkF x g (v + 1)
/-- the text of a place -/
def tx (e x : Int32) : List Int32 := (if e = 0 then (46 : Int32) else (48 : Int32) + e) :: (if x = 0 then [] else (40 : Int32) :: ((mkF x 9 1).map (fun v => (48 : Int32) + nI v) ++ [(41 : Int32)]))
theorem VMk_nat {x : Int32} (h : VMk x) : ∃ i : Nat, i < 512 ∧ x = nI (2 * i) := by
  have hb : ∀ i, bt x i = x.toBitVec.toNat.testBit i := fun _ => rfl
  have h1 : x.toBitVec.toNat < 2 ^ 10 := by
    apply Nat.lt_pow_two_of_testBit
    intro i hi
    cases hz : x.toBitVec.toNat.testBit i
    · rfl
    · by_cases h32 : i < 32
      · have := h i h32 (by rw [hb]; exact hz)
        omega
      · rw [← hb, b_big (by omega)] at hz; cases hz
  have h2 : x.toBitVec.toNat % 2 = 0 := by
    cases hz : x.toBitVec.toNat.testBit 0
    · rw [Nat.testBit_zero] at hz
      have := of_decide_eq_false hz
      omega
    · have := h 0 (by decide) (by rw [hb]; exact hz)
      omega
  refine ⟨x.toBitVec.toNat / 2, by omega, ?_⟩
  rw [show 2 * (x.toBitVec.toNat / 2) = x.toBitVec.toNat by omega]
  apply Int32.toBitVec_inj.mp
  show x.toBitVec = BitVec.ofNat 32 x.toBitVec.toNat
  rw [BitVec.ofNat_toNat, BitVec.setWidth_eq]
set_option maxRecDepth 100000 in
theorem bc_all : ∀ i, i < 512 → f_Jn_bitCount (nI (2 * i)) = some (nI (mkF (nI (2 * i)) 9 1).length) ∧ (nI (2 * i) = 0 ↔ (mkF (nI (2 * i)) 9 1).length = 0) := by decide +kernel
theorem bc_eq {x : Int32} (h : VMk x) : f_Jn_bitCount x = some (nI (mkF x 9 1).length) ∧ (x = 0 ↔ (mkF x 9 1).length = 0) := by
  obtain ⟨i, hi, rfl⟩ := VMk_nat h
  exact bc_all i hi
theorem mkF_len (x : Int32) : ∀ g v, (mkF x g v).length ≤ g := by
  intro g
  induction g with
  | zero => intro v; exact Nat.le_refl _
  | succ g ih =>
    intro v
    show (if bt x v = true then v :: mkF x g (v + 1) else mkF x g (v + 1)).length ≤ g + 1
    have := ih (v + 1)
    split
    · rw [List.length_cons]; omega
    · omega
theorem tx_len (e x : Int32) : (tx e x).length = if x = 0 then 1 else (mkF x 9 1).length + 3 := by
  unfold tx
  by_cases hx : x = 0
  · rw [if_pos hx, if_pos hx]; rfl
  · rw [if_neg hx, if_neg hx]; simp
theorem size_eq {n c : Nat} {mk : Nat → Int32} (e : Int32) (hc : c < n) (hn : n ≤ 81) (h : VMk (mk c)) : f_Bd_textSize n (nI c) mk = some (nI (tx e (mk c)).length) := by
  unfold f_Bd_textSize
  obtain ⟨h1, h2⟩ := bc_eq h
  have hl := mkF_len (mk c) 9 1
  rw [if_pos (in_nI hc (by omega)), nI_clamp (by omega), h1, obS, tx_len]
  by_cases hx : mk c = 0
  · rw [if_pos hx, if_pos (by rw [h2.mp hx]; rfl)]; rfl
  · rw [if_neg hx, if_neg (fun z => hx (h2.mpr ((nI_eq0 (by omega)).mp z))), show nI (mkF (mk c) 9 1).length + (3 : Int32) = nI ((mkF (mk c) 9 1).length + 3) from nI_add _ 3]
theorem fm_loop {n c : Nat} (mk : Nat → Int32) (hc : c < n) (hn : n ≤ 81) (fu : Nat) (p1 : Int32) : ∀ h g v b : Nat, v + h = 10 → h < g → b < (mkF (mk c) h v).length → f_Bd_findMark_L5 fu n mk g (nI c) p1 (nI b) (nI v) = some (nI ((mkF (mk c) h v).getD b 0)) := by
  intro h
  induction h with
  | zero => intro g v b h1 h2 h3; exact absurd h3 (Nat.not_lt_zero _)
  | succ h ih =>
    intro g v b h1 h2 h3
    obtain ⟨g, rfl⟩ : ∃ g', g = g' + 1 := ⟨g - 1, by omega⟩
    show fb_Bd_findMark_L5 fu n mk (f_Bd_findMark_L5 fu n mk g) (nI c) p1 (nI b) (nI v) = _
    unfold fb_Bd_findMark_L5
    rw [if_neg (n09 (by omega)), hasMark_eq mk hc hn, obS]
    have hb := mk_bit (x := mk c) (v := v) (by omega)
    have e : mkF (mk c) (h + 1) v = if bt (mk c) v = true then v :: mkF (mk c) h (v + 1) else mkF (mk c) h (v + 1) := rfl
    rw [e] at h3 ⊢
    rw [nI_1]
    cases hz : bt (mk c) v
    · rw [if_pos (hb.mpr hz), it0]
      rw [hz, if_neg (by decide)] at h3
      rw [if_neg (by decide)]
      exact ih g (v + 1) b (by omega) (by omega) h3
    · rw [if_neg (show ¬ (mk c &&& bit v = 0) from fun q => by rw [hb.mp q] at hz; cases hz), it1]
      rw [hz, if_pos rfl, List.length_cons] at h3
      rw [if_pos rfl]
      by_cases hb0 : b = 0
      · subst hb0; rw [if_pos (show nI 0 = (0 : Int32) from rfl)]; rfl
      · rw [if_neg (fun q => hb0 ((nI_eq0 (by have := mkF_len (mk c) h (v + 1); omega)).mp q)), sb_m1 (by omega)]
        obtain ⟨b, rfl⟩ : ∃ b', b = b' + 1 := ⟨b - 1, by omega⟩
        exact ih g (v + 1) b (by omega) (by omega) (by omega)
theorem byte_eq {n c a : Nat} {en mk : Nat → Int32} {fu : Nat} (hfu : 1000 ≤ fu) (hc : c < n) (hn : n ≤ 81) (h : VMk (mk c)) (ha : a < (tx (en c) (mk c)).length) : f_Bd_textByte fu n (nI c) (nI a) en mk = some ((tx (en c) (mk c)).getD a (-1)) := by
  unfold f_Bd_textByte
  have hl := mkF_len (mk c) 9 1
  have hi : inB (nI c) n := in_nI hc (by omega)
  by_cases h0 : a = 0
  · subst h0
    rw [if_pos (show nI 0 = (0 : Int32) from rfl), if_pos hi, if_pos hi]
    simp only [nI_clamp (show c < 2 ^ 31 by omega)]
    unfold tx
    split <;> rfl
  · rw [tx_len] at ha
    by_cases hx : mk c = 0
    · rw [if_pos hx] at ha; omega
    · rw [if_neg hx] at ha
      rw [if_neg (fun q => h0 ((nI_eq0 (by omega)).mp q))]
      have htx : tx (en c) (mk c) = (if en c = 0 then (46 : Int32) else (48 : Int32) + en c) :: (40 : Int32) :: ((mkF (mk c) 9 1).map (fun v => (48 : Int32) + nI v) ++ [(41 : Int32)]) := by unfold tx; rw [if_neg hx]
      by_cases h1 : a = 1
      · subst h1; rw [if_pos (show nI 1 = (1 : Int32) from rfl), htx]; rfl
      · rw [if_neg (show ¬ nI a = (1 : Int32) from fun q => h1 (nI_inj (b := 1) (by omega) (by decide) q)), size_eq (en c) hc hn h, obS, tx_len, if_neg hx, show nI ((mkF (mk c) 9 1).length + 3) - (1 : Int32) = nI ((mkF (mk c) 9 1).length + 2) from pk_sub (b := 1) (by omega)]
        obtain ⟨b, rfl⟩ : ∃ b', a = b' + 2 := ⟨a - 2, by omega⟩
        rw [htx]
        show _ = some (((mkF (mk c) 9 1).map (fun v => (48 : Int32) + nI v) ++ [(41 : Int32)]).getD b (-1))
        by_cases h2 : b = (mkF (mk c) 9 1).length
        · rw [if_pos (by rw [h2])]
          rw [h2]
          simp [List.getD]
        · rw [if_neg (fun q => h2 (by have := nI_inj (by omega) (by omega) q; omega)), show nI (b + 2) - (2 : Int32) = nI b by rw [show (2 : Int32) = nI 2 from rfl, pk_sub (by omega)]; congr 1]
          unfold f_Bd_findMark
          rw [show f_Bd_findMark_L5 fu n mk fu (nI c) (nI b) (nI b) 1 = _ from fm_loop mk hc hn fu (nI b) 9 fu 1 b (by omega) (by omega) (by omega), obS]
          have hb : b < (mkF (mk c) 9 1).length := by omega
          simp [List.getD, List.getElem?_append, hb]
/-- saying bytes from a place on -/
def sayF : List Int32 → Nat → Int32 → Int32 → Int32
  | [], _, _, f => f
  | b :: L, s, p, f => sayF L (s + 1) p (if nI s = p then b else f)
theorem sayF_app : ∀ (L M : List Int32) (s : Nat) (p f : Int32), sayF (L ++ M) s p f = sayF M (s + L.length) p (sayF L s p f) := by
  intro L
  induction L with
  | nil => intro M s p f; rfl
  | cons b L ih =>
    intro M s p f
    show sayF (L ++ M) (s + 1) p _ = _
    rw [ih, List.length_cons, show s + 1 + L.length = s + (L.length + 1) by omega]
    rfl
theorem sayF_neg : ∀ (L : List Int32) (s : Nat) (p f : Int32), p < 0 → s + L.length < 2 ^ 31 → sayF L s p f = f := by
  intro L
  induction L with
  | nil => intro s p f _ _; rfl
  | cons b L ih =>
    intro s p f hp hs
    rw [List.length_cons] at hs
    show sayF L (s + 1) p (if nI s = p then b else f) = f
    rw [if_neg (fun e => by rw [← e] at hp; exact nI_pos (by omega) hp)]
    exact ih (s + 1) p f hp (by omega)
theorem sayF_past : ∀ (L : List Int32) (s q : Nat) (f : Int32), q < s → s + L.length < 2 ^ 31 → sayF L s (nI q) f = f := by
  intro L
  induction L with
  | nil => intro s q f _ _; rfl
  | cons b L ih =>
    intro s q f hq hs
    rw [List.length_cons] at hs
    show sayF L (s + 1) (nI q) (if nI s = nI q then b else f) = f
    rw [if_neg (fun e => by have := nI_inj (by omega) (by omega) e; omega)]
    exact ih (s + 1) q f (by omega) (by omega)
theorem sayF_get : ∀ (L : List Int32) (s a : Nat) (f : Int32), s + L.length < 2 ^ 31 → s + a < 2 ^ 31 → sayF L s (nI (s + a)) f = L.getD a f := by
  intro L
  induction L with
  | nil => intro s a f _ _; rfl
  | cons b L ih =>
    intro s a f hs ha
    rw [List.length_cons] at hs
    show sayF L (s + 1) (nI (s + a)) (if nI s = nI (s + a) then b else f) = _
    by_cases h0 : a = 0
    · subst h0
      show sayF L (s + 1) (nI s) (if nI s = nI s then b else f) = b
      rw [if_pos rfl, sayF_past L (s + 1) s b (by omega) (by omega)]
    · obtain ⟨a, rfl⟩ : ∃ a', a = a' + 1 := ⟨a - 1, by omega⟩
      rw [if_neg (fun e => by have := nI_inj (by omega) (by omega) e; omega), show s + (a + 1) = (s + 1) + a by omega, ih (s + 1) a f (by omega) (by omega)]
      rfl
theorem say_eq (b : Int32) (z q1 q2 q3 q4 : Int32) (s : Nat) (p f : Int32) : f_Md_say b z q1 q2 q3 q4 (nI s) p f = some (nI (s + 1), if nI s = p then b else f) := by
  unfold f_Md_say
  rw [nI_1]
  split <;> rfl
/-- the text from place c on, h places -/
def txF (en mk : Nat → Int32) : Nat → Nat → List Int32
  | 0, _ => []
  | h + 1, c => tx (en c) (mk c) ++ txF en mk h (c + 1)
theorem tx_le (e x : Int32) : (tx e x).length ≤ 12 := by
  rw [tx_len]
  have := mkF_len x 9 1
  split <;> omega
theorem txF_le (en mk : Nat → Int32) : ∀ h c, (txF en mk h c).length ≤ 12 * h := by
  intro h
  induction h with
  | zero => intro c; exact Nat.le_refl _
  | succ h ih =>
    intro c
    show (tx (en c) (mk c) ++ txF en mk h (c + 1)).length ≤ _
    rw [List.length_append]
    have := ih (c + 1)
    have := tx_le (en c) (mk c)
    omega
theorem s_in (fu : Nat) (pl ps ma sz : Int32) (men mmk : Nat → Int32) (K : Int32 → Int32 → Int32 → Int32 → Int32 → Int32 → Int32 → Option (Int32 × Int32 × Int32 × Int32 × Int32)) (a1 a2 a3 a4 x z p : Int32) : ∀ h g v s : Nat, ∀ f : Int32, v + h = 10 → h < g →
    f_Md_save_L102 fu pl ps ma sz men mmk K g a1 a2 a3 a4 x (nI v) z (nI s) p f = K a1 a2 (a3 + 1) z (nI (s + ((mkF x h v).length + 1))) p (sayF ((mkF x h v).map (fun v => (48 : Int32) + nI v) ++ [(41 : Int32)]) s p f) := by
  intro h
  induction h with
  | zero =>
    intro g v s f h1 h2
    obtain ⟨g, rfl⟩ : ∃ g', g = g' + 1 := ⟨g - 1, by omega⟩
    show fb_Md_save_L102 fu pl ps ma sz men mmk K (f_Md_save_L102 fu pl ps ma sz men mmk K g) a1 a2 a3 a4 x (nI v) z (nI s) p f = _
    unfold fb_Md_save_L102
    rw [if_pos (by rw [le10 (by omega)]; omega), say_eq, obS]
    rfl
  | succ h ih =>
    intro g v s f h1 h2
    obtain ⟨g, rfl⟩ : ∃ g', g = g' + 1 := ⟨g - 1, by omega⟩
    show fb_Md_save_L102 fu pl ps ma sz men mmk K (f_Md_save_L102 fu pl ps ma sz men mmk K g) a1 a2 a3 a4 x (nI v) z (nI s) p f = _
    unfold fb_Md_save_L102
    rw [if_neg (by rw [le10 (by omega)]; omega)]
    have hs := mk_shr (x := x) (v := v) (by omega)
    have e : mkF x (h + 1) v = if bt x v = true then v :: mkF x h (v + 1) else mkF x h (v + 1) := rfl
    rw [e, nI_1]
    cases hz : bt x v
    · rw [if_neg (fun q => by rw [hs.mp q] at hz; cases hz), ih g (v + 1) s f (by omega) (by omega)]
      rw [if_neg (by decide)]
    · rw [if_pos (hs.mpr hz), say_eq, obS]
      show f_Md_save_L102 fu pl ps ma sz men mmk K g a1 a2 a3 a4 x (nI (v + 1)) z (nI (s + 1)) p _ = _
      rw [ih g (v + 1) (s + 1) _ (by omega) (by omega), if_pos rfl, List.length_cons, show s + 1 + ((mkF x h (v + 1)).length + 1) = s + ((mkF x h (v + 1)).length + 1 + 1) by omega]
      rfl
theorem s_out {n j : Nat} (hn : n ≤ 81) (hj : j < 8) {fu : Nat} (hfu : 1000 ≤ fu) (ps ma sz : Int32) (men mmk : Nat → Int32) (p q z : Int32) : ∀ h g c s : Nat, ∀ f : Int32, c + h = n → h < g →
    f_Md_save_L32 fu (nI n) ps ma sz men mmk g (nI j) q (nI c) z (nI s) p f = some (sayF (txF (fun i => men (81 * j + i)) (fun i => mmk (81 * j + i)) h c) s p f, z, nI (s + (txF (fun i => men (81 * j + i)) (fun i => mmk (81 * j + i)) h c).length), p, sayF (txF (fun i => men (81 * j + i)) (fun i => mmk (81 * j + i)) h c) s p f) := by
  intro h
  induction h with
  | zero =>
    intro g c s f h1 h2
    obtain ⟨g, rfl⟩ : ∃ g', g = g' + 1 := ⟨g - 1, by omega⟩
    show fb_Md_save_L32 fu (nI n) ps ma sz men mmk (f_Md_save_L32 fu (nI n) ps ma sz men mmk g) (nI j) q (nI c) z (nI s) p f = _
    unfold fb_Md_save_L32
    rw [if_pos (nI_le (by omega) (by omega))]
    rfl
  | succ h ih =>
    intro g c s f h1 h2
    obtain ⟨g, rfl⟩ : ∃ g', g = g' + 1 := ⟨g - 1, by omega⟩
    show fb_Md_save_L32 fu (nI n) ps ma sz men mmk (f_Md_save_L32 fu (nI n) ps ma sz men mmk g) (nI j) q (nI c) z (nI s) p f = _
    unfold fb_Md_save_L32
    have i6 : inB (nI (81 * j + c)) 648 := in_nI (by omega) (by decide)
    rw [if_neg (nI_ge (by omega) (by omega)), k81, if_pos i6, if_pos i6]
    simp only [nI_clamp (show 81 * j + c < 2 ^ 31 by omega), nI_1]
    show _ = some (sayF (tx (men (81 * j + c)) (mmk (81 * j + c)) ++ txF (fun i => men (81 * j + i)) (fun i => mmk (81 * j + i)) h (c + 1)) s p f, z, nI (s + (tx (men (81 * j + c)) (mmk (81 * j + c)) ++ txF (fun i => men (81 * j + i)) (fun i => mmk (81 * j + i)) h (c + 1)).length), p, sayF (tx (men (81 * j + c)) (mmk (81 * j + c)) ++ txF (fun i => men (81 * j + i)) (fun i => mmk (81 * j + i)) h (c + 1)) s p f)
    rw [sayF_app, List.length_append, tx_len]
    have key : ∀ b : Int32, (if men (81 * j + c) = 0 then (46 : Int32) else (48 : Int32) + men (81 * j + c)) = b → ((some (nI (s + 1), if nI s = p then b else f)).bind fun y14 => (if mmk (81 * j + c) = 0 then f_Md_save_L32 fu (nI n) ps ma sz men mmk g (nI j) q (nI (c + 1)) z y14.1 p y14.2 else ((f_Md_say 40 z (nI n) ps ma sz y14.1 p y14.2).bind fun y16 => f_Md_save_L102 fu (nI n) ps ma sz men mmk (f_Md_save_L32 fu (nI n) ps ma sz men mmk g) fu (nI j) q (nI c) (men (81 * j + c)) (mmk (81 * j + c)) 1 z y16.1 p y16.2))) = some (sayF (txF (fun i => men (81 * j + i)) (fun i => mmk (81 * j + i)) h (c + 1)) (s + (if mmk (81 * j + c) = 0 then 1 else (mkF (mmk (81 * j + c)) 9 1).length + 3)) p (sayF (tx (men (81 * j + c)) (mmk (81 * j + c))) s p f), z, nI (s + ((if mmk (81 * j + c) = 0 then 1 else (mkF (mmk (81 * j + c)) 9 1).length + 3) + (txF (fun i => men (81 * j + i)) (fun i => mmk (81 * j + i)) h (c + 1)).length)), p, sayF (txF (fun i => men (81 * j + i)) (fun i => mmk (81 * j + i)) h (c + 1)) (s + (if mmk (81 * j + c) = 0 then 1 else (mkF (mmk (81 * j + c)) 9 1).length + 3)) p (sayF (tx (men (81 * j + c)) (mmk (81 * j + c))) s p f)) := by
      intro b hb
      rw [obS]
      have htx : tx (men (81 * j + c)) (mmk (81 * j + c)) = b :: (if mmk (81 * j + c) = 0 then [] else (40 : Int32) :: ((mkF (mmk (81 * j + c)) 9 1).map (fun v => (48 : Int32) + nI v) ++ [(41 : Int32)])) := by unfold tx; rw [hb]
      rw [htx]
      by_cases hx : mmk (81 * j + c) = 0
      · rw [if_pos hx, if_pos hx, if_pos hx]
        rw [ih g (c + 1) (s + 1) _ (by omega) (by omega)]
        rw [show s + 1 + (txF (fun i => men (81 * j + i)) (fun i => mmk (81 * j + i)) h (c + 1)).length = s + (1 + (txF (fun i => men (81 * j + i)) (fun i => mmk (81 * j + i)) h (c + 1)).length) by omega]
        rfl
      · rw [if_neg hx, if_neg hx, if_neg hx, say_eq, obS]
        show f_Md_save_L102 fu (nI n) ps ma sz men mmk (f_Md_save_L32 fu (nI n) ps ma sz men mmk g) fu (nI j) q (nI c) (men (81 * j + c)) (mmk (81 * j + c)) (nI 1) z (nI (s + 1 + 1)) p _ = _
        rw [s_in fu _ _ _ _ _ _ _ _ _ _ _ _ _ _ 9 fu 1 (s + 1 + 1) _ (by omega) (by omega), nI_1, ih g (c + 1) _ _ (by omega) (by omega)]
        rw [show s + 1 + 1 + ((mkF (mmk (81 * j + c)) 9 1).length + 1) = s + ((mkF (mmk (81 * j + c)) 9 1).length + 3) by omega, show s + ((mkF (mmk (81 * j + c)) 9 1).length + 3) + (txF (fun i => men (81 * j + i)) (fun i => mmk (81 * j + i)) h (c + 1)).length = s + ((mkF (mmk (81 * j + c)) 9 1).length + 3 + (txF (fun i => men (81 * j + i)) (fun i => mmk (81 * j + i)) h (c + 1)).length) by omega]
        rfl
    by_cases he : men (81 * j + c) = 0
    · rw [if_pos he, say_eq]; exact key 46 (if_pos he)
    · rw [if_neg he, say_eq]; exact key (48 + men (81 * j + c)) (if_neg he)
theorem c_out {n : Nat} (hn : n ≤ 81) {fu : Nat} (hfu : 1000 ≤ fu) (kc uc : Int32) (ps : Nat → Option Nat) (nu pr hc q p1 : Int32) (en mk : Nat → Int32) (hm : ∀ c, c < n → VMk (mk c)) : ∀ h g c a : Nat, c + h = n → h < g → a < 2 ^ 31 →
    f_PS_save_L22 fu n (nI n) kc uc ps nu pr hc en mk g q p1 (nI a) (nI c) = some ((txF en mk h c).getD a (-1)) := by
  intro h
  induction h with
  | zero =>
    intro g c a h1 h2 h3
    obtain ⟨g, rfl⟩ : ∃ g', g = g' + 1 := ⟨g - 1, by omega⟩
    show fb_PS_save_L22 fu n (nI n) kc uc ps nu pr hc en mk (f_PS_save_L22 fu n (nI n) kc uc ps nu pr hc en mk g) q p1 (nI a) (nI c) = _
    unfold fb_PS_save_L22
    rw [if_pos (nI_le (by omega) (by omega))]
    rfl
  | succ h ih =>
    intro g c a h1 h2 h3
    obtain ⟨g, rfl⟩ : ∃ g', g = g' + 1 := ⟨g - 1, by omega⟩
    show fb_PS_save_L22 fu n (nI n) kc uc ps nu pr hc en mk (f_PS_save_L22 fu n (nI n) kc uc ps nu pr hc en mk g) q p1 (nI a) (nI c) = some ((tx (en c) (mk c) ++ txF en mk h (c + 1)).getD a (-1))
    unfold fb_PS_save_L22
    have hcn : c < n := by omega
    have hle := tx_le (en c) (mk c)
    rw [if_neg (nI_ge (by omega) (by omega)), size_eq (en c) hcn hn (hm c hcn), obS]
    by_cases hs : (tx (en c) (mk c)).length ≤ a
    · rw [if_pos (nI_le hs h3), pk_sub hs, nI_1, ih g (c + 1) _ (by omega) (by omega) (by omega)]
      simp [List.getD, List.getElem?_append, Nat.not_lt.mpr hs]
    · rw [if_neg (fun z => hs ((nI_leI (by omega) h3).mp z)), byte_eq hfu hcn hn (hm c hcn) (by omega), obS]
      simp [List.getD, List.getElem?_append, Nat.not_le.mp hs]
theorem txF_same {n : Nat} {en mk en2 mk2 : Nat → Int32} (h : ∀ c, c < n → en c = en2 c ∧ mk c = mk2 c) : ∀ g c, c + g ≤ n → txF en mk g c = txF en2 mk2 g c := by
  intro g
  induction g with
  | zero => intro c _; rfl
  | succ g ih =>
    intro c hc
    show tx (en c) (mk c) ++ txF en mk g (c + 1) = tx (en2 c) (mk2 c) ++ txF en2 mk2 g (c + 1)
    obtain ⟨h1, h2⟩ := h c (by omega)
    rw [h1, h2, ih (c + 1) (by omega)]
theorem R_save {n k m u : Nat} {pa : Nat → Nat → Nat} {ri : Nat → Int32} {ps : Nat → Option Nat} {tp tt tb th un : Nat → Int32} {PR HC : Nat → Int32} {EN MK : Nat → Nat → Int32} {RU : Nat → Int32} {LT CT : Nat → Int64} {mtr men mmk mpr mhp : Nat → Int32} {mct mtd : Nat → Int64} {mru mwh mwe mwt mbf mbh mtx : Nat → Int32} (hR : Rel n k m u pa ri ps tp tt tb th un PR HC EN MK RU LT CT mtr men mmk mpr mhp mct mtd mru mwh mwe mwt mbf mbh mtx) {j : Nat} (hj : j < k) {fu : Nat} (hfu : 1000 ≤ fu) (p uc a t o f : Int32) : ∃ (r x1 x2 x3 : Int32), f_PS_save fu n (nI j) p (nI n) (nI k) uc ps (nI j) (PR j) (HC j) (EN j) (MK j) = some r ∧ f_Md_save fu (nI j) p a (nI n) (nI k) (nI m) (nI u) t o f men mmk = some (r, 0, x1, x2, x3) := by
  obtain ⟨⟨n1, n81, k8, m6, u1⟩, hT, hps, hP, hRw, hF, hU⟩ := hR
  have hq := (hP j hj).1
  unfold f_PS_save f_Md_save
  rw [mpers_y _ _ _ _ _ _ _ hj k8, obS, it1]
  have ho := s_out n81 (show j < 8 by omega) hfu (nI k) (nI m) (nI u) men mmk p p 0 n fu 0 0 (-1) (by omega) (by omega)
  have ho : f_Md_save_L32 fu (nI n) (nI k) (nI m) (nI u) men mmk fu (nI j) p 0 0 0 p (-1) = _ := ho
  rw [ho]
  have hle := txF_le (fun i => men (81 * j + i)) (fun i => mmk (81 * j + i)) n 0
  by_cases hp : 0 ≤ p
  · rw [if_pos hp]
    obtain ⟨b, hb, rfl⟩ := nI_of (x := p) (by rw [Int32.not_lt]; exact hp)
    have hc := c_out n81 hfu (nI k) uc ps (nI j) (PR j) (HC j) (nI j) (nI b) (EN j) (MK j) (fun c hcn => by rw [(hq c hcn).2.2.1]; exact (hq c hcn).2.2.2) n fu 0 b (by omega) (by omega) hb
    have hc : f_PS_save_L22 fu n (nI n) (nI k) uc ps (nI j) (PR j) (HC j) (EN j) (MK j) fu (nI j) (nI b) (nI b) 0 = _ := hc
    rw [hc, txF_same (n := n) (en2 := fun i => men (81 * j + i)) (mk2 := fun i => mmk (81 * j + i)) (fun c hcn => ⟨(hq c hcn).1, (hq c hcn).2.2.1⟩) n 0 (by omega)]
    have hg := sayF_get (txF (fun i => men (81 * j + i)) (fun i => mmk (81 * j + i)) n 0) 0 b (-1) (by omega) (by omega)
    rw [Nat.zero_add] at hg
    rw [hg]
    exact ⟨_, _, _, _, rfl, rfl⟩
  · rw [if_neg hp, sayF_neg _ _ _ _ (by rw [← Int32.not_le]; exact hp) (by omega)]
    exact ⟨_, _, _, _, rfl, rfl⟩
