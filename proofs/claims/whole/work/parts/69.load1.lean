/-! load: the text is read alike -/
def dg (b : Nat) : Nat := if 49 ≤ b ∧ b ≤ 57 then b - 48 else 0
theorem bA_y {i u : Nat} (z pl ps ma t o f : Int32) (tx : Nat → Int32) (hi : i < u) (hu : u ≤ 1000) : f_Md_byteAt (nI i) z pl ps ma (nI u) t o f tx = some (tx i) := by
  unfold f_Md_byteAt
  rw [if_neg (nI_ge hi (by omega)), if_pos (in_nI (show i < 1000 by omega) (by decide)), nI_clamp (by omega)]
theorem bA_n {u : Nat} (z pl ps ma t o f : Int32) (tx : Nat → Int32) (hu : u ≤ 1000) : f_Md_byteAt (nI u) z pl ps ma (nI u) t o f tx = some (-1) := by
  unfold f_Md_byteAt
  rw [if_pos (nI_le (Nat.le_refl _) (by omega))]
theorem dA_y {i u b : Nat} (z pl ps ma t o f : Int32) (tx : Nat → Int32) (hi : i < u) (hu : u ≤ 1000) (hb : tx i = nI b) (b2 : b ≤ 255) : f_Md_digitAt (nI i) z pl ps ma (nI u) t o f tx = some (nI (dg b)) := by
  unfold f_Md_digitAt dg
  rw [bA_y z pl ps ma t o f tx hi hu, obS, hb]
  by_cases h1 : b < 49
  · rw [if_pos (show nI b < (49 : Int32) from nI_lt (b := 49) h1 (by decide)), if_neg (by omega)]; rfl
  · rw [if_neg (show ¬ nI b < (49 : Int32) from nI_nlt (b := 49) (by omega) (by omega)), obS]
    by_cases h2 : 57 < b
    · rw [if_pos (show (57 : Int32) < nI b from nI_lt (a := 57) h2 (by omega)), if_neg (by omega)]; rfl
    · rw [if_neg (show ¬ (57 : Int32) < nI b from nI_nlt (a := 57) (by omega) (by decide)), obS, if_pos (by omega), show nI b - (48 : Int32) = nI (b - 48) from pk_sub (b := 48) (by omega)]
theorem dA_n {u : Nat} (z pl ps ma t o f : Int32) (tx : Nat → Int32) (hu : u ≤ 1000) : f_Md_digitAt (nI u) z pl ps ma (nI u) t o f tx = some (nI 0) := by
  unfold f_Md_digitAt
  rw [bA_n z pl ps ma t o f tx hu, obS, if_pos (by decide)]; rfl
theorem dg_le (b : Nat) : dg b ≤ 9 := by unfold dg; split <;> omega
theorem sub48 {b : Nat} (hb : b < 49) : nI b - (48 : Int32) < (1 : Int32) := by
  by_cases h : b = 48
  · subst h; decide
  · have h1 : nI b - nI 48 < 0 := pk_sneg (by decide) (by omega)
    have h1 : nI b - (48 : Int32) < 0 := h1
    rw [Int32.lt_iff_toInt_lt] at *
    have : (0 : Int32).toInt = 0 := by decide
    have : (1 : Int32).toInt = 1 := by decide
    omega
theorem z19_b {b : Nat} (hb : b ≤ 255) : f_PS_isOneToNine (nI b - (48 : Int32)) = some (if dg b = 0 then 0 else 1) := by
  unfold dg
  by_cases h1 : b < 49
  · rw [z19_n (Or.inl (sub48 h1)), if_neg (show ¬ (49 ≤ b ∧ b ≤ 57) by omega), if_pos rfl]
  · rw [show nI b - (48 : Int32) = nI (b - 48) from pk_sub (b := 48) (by omega)]
    by_cases h2 : b ≤ 57
    · rw [z19_y (by omega) (by omega), if_pos (show 49 ≤ b ∧ b ≤ 57 by omega), if_neg (by omega)]
    · rw [z19_n (Or.inr (show (9 : Int32) < nI (b - 48) from nI_lt (a := 9) (by omega) (by omega))), if_neg (show ¬ (49 ≤ b ∧ b ≤ 57) by omega), if_pos rfl]
theorem pM_lt {d : Nat} {x : Nat → Int32} {c : Nat} (h : d < 10) : pM d x c = x := if_pos h
theorem pE_ge {d : Nat} {x : Nat → Int32} {c : Nat} (h : ¬ d < 10) : pE d x c = x := if_neg h
/-- an entry's byte -/
theorem aE_y {n c b : Nat} (mo op lm : Int32) (e x : Nat → Int32) (hc : c < n) (hn : n ≤ 81) (hb : b ≤ 255) (h : b = 46 ∨ dg b ≠ 0) : f_Sr_acceptsEntry n (nI b) (nI n) (nI c) mo op lm e x = some (1, nI (c + 1), 1, upd e c (nI (dg b)), x) := by
  unfold f_Sr_acceptsEntry
  have hp : ¬ nI n ≤ nI c := nI_ge hc (by omega)
  by_cases h6 : b = 46
  · subst h6
    rw [if_pos (show nI 46 = (46 : Int32) from rfl), if_neg hp, if_pos (show nI 46 = (46 : Int32) from rfl), show f_Bd_put n (nI c) 0 e x = _ from put_eq (d := 0) e x hc hn (by omega), obS, pM_lt (by omega), nI_1]
    rfl
  · have h6' : ¬ nI b = (46 : Int32) := fun q => h6 (nI_inj (b := 46) (by omega) (by decide) q)
    have hd := h.resolve_left h6
    have hd9 := dg_le b
    have hv : nI b - (48 : Int32) = nI (dg b) := by
      unfold dg at hd ⊢
      split at hd
      · rename_i hh; rw [if_pos hh]; exact pk_sub (b := 48) (by omega)
      · exact absurd rfl hd
    rw [if_neg h6', if_neg hp, if_neg h6', z19_b hb, obS, if_neg hd, it1, hv, put_eq e x hc hn (by omega), obS, pM_lt (by omega), nI_1]
    show some (1, nI (c + 1), 1, pE (dg b) e c, x) = _
    rw [show pE (dg b) e c = upd e c (nI (dg b)) from if_pos (by omega)]
theorem aE_n {n c b : Nat} (mo op lm : Int32) (e x : Nat → Int32) (hc : c ≤ n) (hn : n ≤ 81) (hb : b ≤ 255) (h : c = n ∨ (b ≠ 46 ∧ dg b = 0)) : f_Sr_acceptsEntry n (nI b) (nI n) (nI c) mo op lm e x = some (0, nI c, mo, e, x) := by
  unfold f_Sr_acceptsEntry
  by_cases hcn : c = n
  · subst hcn
    have hp : nI c ≤ nI c := nI_le (Nat.le_refl _) (by omega)
    rw [if_pos hp]
    split <;> rfl
  · obtain ⟨h6, hd⟩ := h.resolve_left hcn
    have h6' : ¬ nI b = (46 : Int32) := fun q => h6 (nI_inj (b := 46) (by omega) (by decide) q)
    rw [if_neg h6', if_neg (nI_ge (by omega) (by omega)), if_neg h6', z19_b hb, obS, if_pos hd, it0]
/-- outside of marks -/
theorem ac_entry {n c b : Nat} (pc mo lm : Int32) (e x : Nat → Int32) (hc : c < n) (hn : n ≤ 81) (hb : b ≤ 255) (h : b = 46 ∨ dg b ≠ 0) : f_Sr_accepts n (nI b) (nI n) (nI c) mo 0 lm e x = some (1, nI (c + 1), 1, 0, lm, upd e c (nI (dg b)), x) := by
  unfold f_Sr_accepts
  have h40 : ¬ nI b = (40 : Int32) := fun q => by
    have := nI_inj (b := 40) (by omega) (by decide) q
    subst this
    rcases h with h | h
    · omega
    · exact h rfl
  rw [it0, if_neg h40, aE_y mo 0 lm e x hc hn hb h, obS]
  exact if_pos (Or.inr rfl)
theorem ac_reject {n c b : Nat} (mo lm : Int32) (e x : Nat → Int32) (hc : c ≤ n) (hn : n ≤ 81) (hb : b ≤ 255) (h : c = n ∨ (b ≠ 46 ∧ dg b = 0)) (hm : b = 40 → mo = 0) : ∃ mo' op', f_Sr_accepts n (nI b) (nI n) (nI c) mo 0 lm e x = some (0, nI c, mo', op', lm, e, x) := by
  unfold f_Sr_accepts
  rw [it0]
  by_cases h40 : b = 40
  · subst h40
    rw [if_pos (show nI 40 = (40 : Int32) from rfl), hm rfl]
    unfold f_Sr_acceptsOpening
    rw [it0, obS]
    exact ⟨_, _, if_pos (Or.inl rfl)⟩
  · rw [if_neg (show ¬ nI b = (40 : Int32) from fun q => h40 (nI_inj (b := 40) (by omega) (by decide) q)), aE_n mo 0 lm e x hc hn hb h, obS]
    exact ⟨_, _, if_pos (Or.inl rfl)⟩
theorem ac_open {n : Nat} (q lm : Int32) (e x : Nat → Int32) : f_Sr_accepts n (nI 40) (nI n) q 1 0 lm e x = some (1, q, 0, 1, 0, e, x) := by
  unfold f_Sr_accepts f_Sr_acceptsOpening
  rw [it0, if_pos (show nI 40 = (40 : Int32) from rfl), it1, obS]
  exact if_pos (Or.inr rfl)
/-- inside of marks -/
theorem ac_close {n : Nat} (q mo : Int32) (l : Nat) (hl : l ≤ 9) (e x : Nat → Int32) : f_Sr_accepts n (nI 41) (nI n) q mo 1 (nI l) e x = some (if l = 0 then 0 else 1, q, mo, if l = 0 then 1 else 0, nI l, e, x) := by
  unfold f_Sr_accepts f_Sr_acceptsClosing
  rw [it1, if_pos (show nI 41 = (41 : Int32) from rfl)]
  by_cases h : l = 0
  · subst h
    rw [if_pos (show nI 0 = (0 : Int32) from rfl), obS, if_pos rfl, if_pos rfl]
    exact if_pos (Or.inl rfl)
  · rw [if_neg (fun z => h ((nI_eq0 (by omega)).mp z)), obS, if_neg h, if_neg h]
    exact if_pos (Or.inr rfl)
theorem ac_mark {n c b : Nat} (mo : Int32) (l : Nat) (hl : l ≤ 9) (e x : Nat → Int32) (hc : c < n) (hn : n ≤ 81) (hb : b ≤ 255) (h41 : b ≠ 41) : f_Sr_accepts n (nI b) (nI n) (nI (c + 1)) mo 1 (nI l) e x = if l < dg b then some (1, nI (c + 1), mo, 1, nI (dg b), e, upd x c (x c ||| bit (dg b))) else some (0, nI (c + 1), mo, 1, nI l, e, x) := by
  unfold f_Sr_accepts f_Sr_acceptsMark
  have hd9 := dg_le b
  rw [it1, if_neg (show ¬ nI b = (41 : Int32) from fun q => h41 (nI_inj (b := 41) (by omega) (by decide) q)), z19_b hb, obS]
  by_cases h0 : dg b = 0
  · rw [if_pos h0, it0, obS, if_neg (show ¬ l < dg b by omega)]
    exact if_pos (Or.inl rfl)
  · have hv : nI b - (48 : Int32) = nI (dg b) := by
      unfold dg at h0 ⊢
      split at h0
      · rename_i hh; rw [if_pos hh]; exact pk_sub (b := 48) (by omega)
      · exact absurd rfl h0
    rw [if_neg h0, it1, hv]
    by_cases hlt : l < dg b
    · rw [if_pos (nI_lt hlt (by omega)), show nI (c + 1) - (1 : Int32) = nI c from pk_sub (a := c + 1) (b := 1) (by omega), show (10 : Int32) + nI (dg b) = nI (10 + dg b) from nI_add 10 _, put_eq e x hc hn (by omega), obS, obS, if_pos hlt, pE_ge (by omega)]
      show (if (1 : Int32) = 0 ∨ (1 : Int32) = 1 then some (1, nI (c + 1), mo, 1, nI (dg b), e, pM (10 + dg b) x c) else none) = _
      rw [if_pos (Or.inr rfl)]
      unfold pM
      rw [if_neg (by omega), if_pos (by omega), show 10 + dg b - 10 = dg b by omega]
    · rw [if_neg (fun z => hlt ((nI_ltI (by omega) (by omega)).mp z)), obS, if_neg hlt]
      exact if_pos (Or.inl rfl)
abbrev pX : Type := Int32 × (Nat → Int32) × (Nat → Int32)
abbrev pY : Type := Int32 × (Nat → Int32) × (Nat → Int32) × Int32 × Int32 × Int32 × Int32
/-- what came out, by both -/
def PO (n u : Nat) (X : pX) (Y : pY) : Prop := (∃ A, A ≤ u ∧ X.1 = nI A ∧ Y.1 = nI A ∧ (A = u → ¬ (Y.2.2.2.1 = nI n ∧ Y.2.2.2.2.2.1 = 0))) ∨ (X.1 = -1 ∧ Y.1 = nI u ∧ Y.2.2.2.1 = nI n ∧ Y.2.2.2.2.2.1 = 0 ∧ ∀ c, c < n → Y.2.1 c = X.2.1 c ∧ V10 (X.2.1 c) ∧ Y.2.2.1 c = X.2.2 c ∧ VMk (X.2.2 c))
def Ag (c : Nat) (e x tE tM : Nat → Int32) : Prop := ∀ i, i < c → e i = tE i ∧ V10 (tE i) ∧ x i = tM i ∧ VMk (tM i)
theorem parse_both {n u : Nat} (hn : n ≤ 81) (hu : u ≤ 1000) {fu : Nat} (hfu : 2000 ≤ fu) (kc kk z pl ps ma t o f : Int32) (un tx : Nat → Int32) (hU : ∀ i, i < u → un i = tx i ∧ ∃ b, b ≤ 255 ∧ tx i = nI b) : ∀ h : Nat,
    (∀ i c g4 gC : Nat, ∀ (e x tE tM : Nat → Int32) (mo lm : Int32), i + h = u → c ≤ n → n < g4 + c → h < gC → (mo = 0 ∨ (mo = 1 ∧ (i < u → un i ≠ nI 40))) → Ag c e x tE tM → (∀ c', c ≤ c' → c' < n → x c' = 0) →
      ∃ X Y, f_Md_parse_L4 fu z (nI n) ps ma (nI u) t o f tx g4 (nI i) (nI c) tE tM = some X ∧ f_PS_readUnits_L9 fu n kc kk (nI u) un (nI n) gC (nI i) e x (nI c) mo 0 lm = some Y ∧ PO n u X Y) ∧
    (∀ i c l g4 g72 gC : Nat, ∀ (e x tE tM : Nat → Int32), i + h = u → c < n → l ≤ 9 → n < g4 + (c + 1) → h < g72 → h < gC → Ag (c + 1) e x tE tM → (∀ c', c + 1 ≤ c' → c' < n → x c' = 0) →
      ∃ X Y, f_Md_parse_L72 fu z (nI n) ps ma (nI u) t o f tx (f_Md_parse_L4 fu z (nI n) ps ma (nI u) t o f tx g4) g72 (nI i) (nI c) (nI l) tE tM = some X ∧ f_PS_readUnits_L9 fu n kc kk (nI u) un (nI n) gC (nI i) e x (nI (c + 1)) 0 1 (nI l) = some Y ∧ PO n u X Y) := by
  intro h
  induction h using Nat.strongRecOn with
  | ind h ih =>
  refine ⟨fun i c g4 gC e x tE tM mo lm hi hc hg hgC hmo hag hz => ?_, fun i c l g4 g72 gC e x tE tM hi hc hl hg h7 hgC hag hz => ?_⟩
  · obtain ⟨g4, rfl⟩ : ∃ g', g4 = g' + 1 := ⟨g4 - 1, by omega⟩
    obtain ⟨gC, rfl⟩ : ∃ g', gC = g' + 1 := ⟨gC - 1, by omega⟩
    show ∃ X Y, fb_Md_parse_L4 fu z (nI n) ps ma (nI u) t o f tx (f_Md_parse_L4 fu z (nI n) ps ma (nI u) t o f tx g4) (nI i) (nI c) tE tM = some X ∧ fb_PS_readUnits_L9 fu n kc kk (nI u) un (nI n) (f_PS_readUnits_L9 fu n kc kk (nI u) un (nI n) gC) (nI i) e x (nI c) mo 0 lm = some Y ∧ PO n u X Y
    unfold fb_Md_parse_L4 fb_PS_readUnits_L9
    have hm40 : ∀ b, i < u → un i = nI b → b = 40 → mo = 0 := fun b h1 h2 h3 => by
      rcases hmo with h | ⟨-, h⟩
      · exact h
      · rw [h3] at h2; exact absurd h2 (h h1)
    by_cases hcn : c = n
    · rw [if_pos (nI_le (show n ≤ c by omega) (by omega))]
      by_cases hiu : i = u
      · rw [if_pos (nI_le (show u ≤ i by omega) (by omega)), if_pos (nI_le (show u ≤ i by omega) (by omega))]
        exact ⟨_, _, rfl, rfl, Or.inr ⟨rfl, by rw [hiu], by rw [hcn], rfl, fun c' h' => hag c' (by omega)⟩⟩
      · have hlt : i < u := by omega
        obtain ⟨u1, b, b2, b1⟩ := hU i hlt
        rw [if_neg (nI_ge hlt (by omega)), if_neg (nI_ge hlt (by omega)), if_pos (in_nI (show i < 1000 by omega) (by decide)), nI_clamp (show i < 2 ^ 31 by omega), u1, b1]
        obtain ⟨mo', op', hr⟩ := ac_reject mo lm e x hc hn b2 (Or.inl hcn) (hm40 b hlt (by rw [u1, b1]))
        rw [hr, obS, it0]
        exact ⟨_, _, rfl, rfl, Or.inl ⟨i, by omega, rfl, rfl, fun h' => by omega⟩⟩
    · have hcl : c < n := by omega
      have i8 : inB (nI c) 81 := in_nI (by omega) (by decide)
      rw [if_neg (nI_ge hcl (by omega))]
      by_cases hiu : i = u
      · rw [hiu, dA_n z (nI n) ps ma t o f tx hu, obS, if_pos i8, if_pos i8, if_pos i8, bA_n z (nI n) ps ma t o f tx hu, obS, if_pos (nI_le (Nat.le_refl u) (by omega))]
        simp only [nI_clamp (show c < 2 ^ 31 by omega), pk_us]
        rw [if_pos (show nI 0 = (0 : Int32) from rfl), if_neg (show ¬ (-1 : Int32) = 46 by decide)]
        exact ⟨_, _, rfl, rfl, Or.inl ⟨u, Nat.le_refl u, rfl, rfl, fun _ hq => hcn (nI_inj (by omega) (by omega) hq.1)⟩⟩
      · have hlt : i < u := by omega
        obtain ⟨u1, b, b2, b1⟩ := hU i hlt
        rw [dA_y z (nI n) ps ma t o f tx hlt hu b1 b2, obS, if_pos i8, if_pos i8, if_pos i8, bA_y z (nI n) ps ma t o f tx hlt hu, obS, if_neg (nI_ge hlt (by omega)), if_pos (in_nI (show i < 1000 by omega) (by decide))]
        simp only [nI_clamp (show c < 2 ^ 31 by omega), nI_clamp (show i < 2 ^ 31 by omega), pk_us, u1, b1, nI_1]
        have hd9 := dg_le b
        by_cases hent : b = 46 ∨ dg b ≠ 0
        · rw [ac_entry 0 mo lm e x hcl hn b2 hent, obS, it1]
          have ag1 : Ag (c + 1) (upd e c (nI (dg b))) x (upd tE c (nI (dg b))) (upd tM c 0) := fun c' h' => by
            by_cases e1 : c' = c
            · subst e1; rw [pk_us, pk_us, pk_us, hz c' (Nat.le_refl _) hcl]; exact ⟨rfl, ⟨dg b, hd9, rfl⟩, rfl, VMk_0⟩
            · rw [pk_un e1, pk_un e1, pk_un e1]; exact hag c' (by omega)
          have hz1 : ∀ c', c + 1 ≤ c' → c' < n → x c' = 0 := fun c' h1 h2 => hz c' (by omega) h2
          have cont : ∃ X Y, ((f_Md_byteAt (nI (i + 1)) z (nI n) ps ma (nI u) t o f tx).bind fun y20 => (if y20 = (40 : Int32) then f_Md_parse_L72 fu z (nI n) ps ma (nI u) t o f tx (f_Md_parse_L4 fu z (nI n) ps ma (nI u) t o f tx g4) fu (nI (i + 1 + 1)) (nI c) (0 : Int32) (upd tE c (nI (dg b))) (upd tM c 0) else f_Md_parse_L4 fu z (nI n) ps ma (nI u) t o f tx g4 (nI (i + 1)) (nI (c + 1)) (upd tE c (nI (dg b))) (upd tM c 0))) = some X ∧ f_PS_readUnits_L9 fu n kc kk (nI u) un (nI n) gC (nI (i + 1)) (upd e c (nI (dg b))) x (nI (c + 1)) 1 0 lm = some Y ∧ PO n u X Y := by
            by_cases h1 : i + 1 < u
            · obtain ⟨v1, b', w2, w1⟩ := hU (i + 1) h1
              rw [bA_y z (nI n) ps ma t o f tx h1 hu, obS, w1]
              by_cases h40 : b' = 40
              · subst h40
                rw [if_pos (show nI 40 = (40 : Int32) from rfl)]
                obtain ⟨gC, rfl⟩ : ∃ g', gC = g' + 1 := ⟨gC - 1, by omega⟩
                have eC : f_PS_readUnits_L9 fu n kc kk (nI u) un (nI n) (gC + 1) (nI (i + 1)) (upd e c (nI (dg b))) x (nI (c + 1)) 1 0 lm = f_PS_readUnits_L9 fu n kc kk (nI u) un (nI n) gC (nI (i + 1 + 1)) (upd e c (nI (dg b))) x (nI (c + 1)) 0 1 0 := by
                  show fb_PS_readUnits_L9 fu n kc kk (nI u) un (nI n) (f_PS_readUnits_L9 fu n kc kk (nI u) un (nI n) gC) (nI (i + 1)) (upd e c (nI (dg b))) x (nI (c + 1)) 1 0 lm = _
                  unfold fb_PS_readUnits_L9
                  rw [if_neg (nI_ge h1 (by omega)), if_pos (in_nI (show i + 1 < 1000 by omega) (by decide)), nI_clamp (show i + 1 < 2 ^ 31 by omega), v1, w1, ac_open, obS, it1, nI_1]
                rw [eC]
                exact (ih (h - 2) (by omega)).2 (i + 1 + 1) c 0 g4 fu gC _ x _ _ (by omega) hcl (by omega) (by omega) (by omega) (by omega) ag1 hz1
              · rw [if_neg (show ¬ nI b' = (40 : Int32) from fun q => h40 (nI_inj (b := 40) (by omega) (by decide) q))]
                exact (ih (h - 1) (by omega)).1 (i + 1) (c + 1) g4 gC _ x _ _ 1 lm (by omega) (by omega) (by omega) (by omega) (Or.inr ⟨rfl, fun _ q => by rw [v1, w1] at q; exact h40 (nI_inj (by omega) (by decide) q)⟩) ag1 hz1
            · rw [show i + 1 = u by omega, bA_n z (nI n) ps ma t o f tx hu, obS, if_neg (show ¬ (-1 : Int32) = 40 by decide)]
              exact (ih (h - 1) (by omega)).1 u (c + 1) g4 gC _ x _ _ 1 lm (by omega) (by omega) (by omega) (by omega) (Or.inr ⟨rfl, fun q => by omega⟩) ag1 hz1
          by_cases hd0 : dg b = 0
          · have h46 : b = 46 := hent.resolve_right (fun q => q hd0)
            rw [if_pos ((nI_eq0 (show dg b < 2 ^ 31 by omega)).mpr hd0), if_pos (show nI b = (46 : Int32) by rw [h46]; rfl)]
            exact cont
          · rw [if_neg (fun q => hd0 ((nI_eq0 (show dg b < 2 ^ 31 by omega)).mp q))]
            exact cont
        · have h46 : b ≠ 46 := fun q => hent (Or.inl q)
          have hd0 : dg b = 0 := by
            by_cases q : dg b = 0
            · exact q
            · exact absurd (Or.inr q) hent
          obtain ⟨mo', op', hr⟩ := ac_reject mo lm e x hc hn b2 (Or.inr ⟨h46, hd0⟩) (hm40 b hlt (by rw [u1, b1]))
          rw [hr, obS, it0, if_pos ((nI_eq0 (show dg b < 2 ^ 31 by omega)).mpr hd0), if_neg (show ¬ nI b = (46 : Int32) from fun q => h46 (nI_inj (b := 46) (by omega) (by decide) q))]
          exact ⟨_, _, rfl, rfl, Or.inl ⟨i, by omega, rfl, rfl, fun h' => by omega⟩⟩
  · obtain ⟨g72, rfl⟩ : ∃ g', g72 = g' + 1 := ⟨g72 - 1, by omega⟩
    obtain ⟨gC, rfl⟩ : ∃ g', gC = g' + 1 := ⟨gC - 1, by omega⟩
    show ∃ X Y, fb_Md_parse_L72 fu z (nI n) ps ma (nI u) t o f tx (f_Md_parse_L4 fu z (nI n) ps ma (nI u) t o f tx g4) (f_Md_parse_L72 fu z (nI n) ps ma (nI u) t o f tx (f_Md_parse_L4 fu z (nI n) ps ma (nI u) t o f tx g4) g72) (nI i) (nI c) (nI l) tE tM = some X ∧ fb_PS_readUnits_L9 fu n kc kk (nI u) un (nI n) (f_PS_readUnits_L9 fu n kc kk (nI u) un (nI n) gC) (nI i) e x (nI (c + 1)) 0 1 (nI l) = some Y ∧ PO n u X Y
    unfold fb_Md_parse_L72 fb_PS_readUnits_L9
    have i8 : inB (nI c) 81 := in_nI (by omega) (by decide)
    by_cases hiu : i = u
    · rw [hiu, dA_n z (nI n) ps ma t o f tx hu, obS, if_pos (nI_le (show 0 ≤ l by omega) (by omega)), bA_n z (nI n) ps ma t o f tx hu, obS, if_neg (show ¬ (-1 : Int32) = 41 by decide), if_pos (nI_le (Nat.le_refl u) (by omega))]
      refine ⟨(nI u, tE, tM), _, ?_, rfl, Or.inl ⟨u, Nat.le_refl u, rfl, rfl, fun _ hq => absurd (show (1 : Int32) = 0 from hq.2) (by decide)⟩⟩
      split <;> rfl
    · have hlt : i < u := by omega
      obtain ⟨u1, b, b2, b1⟩ := hU i hlt
      have hd9 := dg_le b
      rw [dA_y z (nI n) ps ma t o f tx hlt hu b1 b2, obS, obS, bA_y z (nI n) ps ma t o f tx hlt hu, obS, if_pos i8, if_pos i8, if_neg (nI_ge hlt (by omega)), if_pos (in_nI (show i < 1000 by omega) (by decide))]
      simp only [nI_clamp (show c < 2 ^ 31 by omega), nI_clamp (show i < 2 ^ 31 by omega), u1, b1, nI_1]
      by_cases h41 : b = 41
      · subst h41
        rw [ac_close _ _ l hl, obS, if_pos (show nI (dg 41) ≤ nI l from nI_le (show 0 ≤ l by omega) (by omega)), if_pos (show nI 41 = (41 : Int32) from rfl)]
        by_cases hl0 : l = 0
        · rw [if_pos hl0, if_pos ((nI_eq0 (by omega)).mpr hl0), it0]
          exact ⟨_, _, rfl, rfl, Or.inl ⟨i, by omega, rfl, rfl, fun h' => by omega⟩⟩
        · rw [if_neg hl0, if_neg (fun q => hl0 ((nI_eq0 (show l < 2 ^ 31 by omega)).mp q)), it1]
          show ∃ X Y, f_Md_parse_L4 fu z (nI n) ps ma (nI u) t o f tx g4 (nI (i + 1)) (nI (c + 1)) tE tM = some X ∧ f_PS_readUnits_L9 fu n kc kk (nI u) un (nI n) gC (nI (i + 1)) e x (nI (c + 1)) 0 (if l = 0 then 1 else 0) (nI l) = some Y ∧ PO n u X Y
          rw [if_neg hl0]
          exact (ih (h - 1) (by omega)).1 (i + 1) (c + 1) g4 gC e x tE tM 0 (nI l) (by omega) (by omega) (by omega) (by omega) (Or.inl rfl) hag hz
      · rw [ac_mark 0 l hl e x hc hn b2 h41]
        by_cases hlt2 : l < dg b
        · rw [if_pos hlt2, obS, it1, if_neg (nI_ge hlt2 (by omega))]
          show ∃ X Y, f_Md_parse_L72 fu z (nI n) ps ma (nI u) t o f tx (f_Md_parse_L4 fu z (nI n) ps ma (nI u) t o f tx g4) g72 (nI (i + 1)) (nI c) (nI (dg b)) tE (upd tM c (tM c ||| bit (dg b))) = some X ∧ f_PS_readUnits_L9 fu n kc kk (nI u) un (nI n) gC (nI (i + 1)) e (upd x c (x c ||| bit (dg b))) (nI (c + 1)) 0 1 (nI (dg b)) = some Y ∧ PO n u X Y
          refine (ih (h - 1) (by omega)).2 (i + 1) c (dg b) g4 g72 gC e _ tE _ (by omega) hc hd9 hg (by omega) (by omega) (fun c' h' => ?_) (fun c' h1 h2 => by rw [pk_un (by omega)]; exact hz c' h1 h2)
          obtain ⟨q1, q2, q3, q4⟩ := hag c' h'
          by_cases e1 : c' = c
          · subst e1; rw [pk_us, pk_us, q3]; exact ⟨q1, q2, rfl, VMk_or q4 (by omega) hd9⟩
          · rw [pk_un e1, pk_un e1]; exact ⟨q1, q2, q3, q4⟩
        · rw [if_neg hlt2, obS, it0, if_pos (nI_le (show dg b ≤ l by omega) (by omega)), if_neg (show ¬ nI b = (41 : Int32) from fun q => h41 (nI_inj (b := 41) (by omega) (by decide) q))]
          refine ⟨(nI i, tE, tM), _, ?_, rfl, Or.inl ⟨i, by omega, rfl, rfl, fun h' => by omega⟩⟩
          split <;> rfl
