/-! the whole world of the law: the class's cells, the reference's, the persons' -/
def wC (G : gG) (ad : Nat → Nat) (n : Nat) (pc kc uc : Int32) (ri : Nat → Int32) (ps : Nat → Option Nat) (tc : Int32) (tp tt tb th jn un dE dM : Nat → Int32) (rc rp rm ro rl : Int32) : va_W :=
  [(ad 0, .inr (5, [.int pc, .ref (ad 1), .ref (ad 2), .int kc, .ref (ad 3), .ref (ad 8), .ref (ad 9), .int uc, .ref (ad 10), .ref (ad 13)])), (ad 1, .inl (G.2 0, n, .inl ri)), (ad 2, .inl (G.2 3, 8, .inr (.inr (.inr (.inr ps))))),
   (ad 3, .inr (3, [.ref (ad 4), .ref (ad 5), .ref (ad 6), .ref (ad 7), .int tc])), (ad 4, .inl (G.2 0, 600, .inl tp)), (ad 5, .inl (G.2 0, 600, .inl tt)), (ad 6, .inl (G.2 0, 600, .inl tb)), (ad 7, .inl (G.2 0, 600, .inl th)),
   (ad 8, .inl (G.2 1, 600, .inl jn)), (ad 9, .inl (G.2 0, 1000, .inl un)), (ad 10, .inr (0, [.ref (ad 11), .ref (ad 12)])), (ad 11, .inl (G.2 0, n, .inl dE)), (ad 12, .inl (G.2 0, n, .inl dM)),
   (ad 13, .inr (4, [.ref (ad 10), .int rc, .int rp, .int rm, .int ro, .int rl]))]
def wP (G : gG) (n : Nat) (b : Nat → Nat) (nu pr hc : Int32) (en mk : Nat → Int32) (ru : Int32) (lt ct : Int64) : va_W :=
  [(b 0, .inr (2, [.int nu, .ref (b 1), .ref (b 4), .int pr, .int hc])), (b 1, .inr (0, [.ref (b 2), .ref (b 3)])), (b 2, .inl (G.2 0, n, .inl en)), (b 3, .inl (G.2 0, n, .inl mk)), (b 4, .inr (1, [.int ru, .long lt, .long ct]))]
def wM (G : gG) (am : Nat → Nat) (mth mpl mps mma msz mat mso mfo : Int32) (mtr men mmk mpr mhp : Nat → Int32) (mct mtd : Nat → Int64) (mru mwh mwe mwt mbf mbh mon mte mtm mtx : Nat → Int32) : va_W :=
  [(am 0, .inr (6, [.int mth, .int mpl, .int mps, .ref (am 1), .ref (am 2), .ref (am 3), .ref (am 4), .ref (am 5), .ref (am 6), .ref (am 7), .ref (am 8), .int mma, .ref (am 9), .ref (am 10), .ref (am 11), .ref (am 12), .ref (am 13), .ref (am 14), .ref (am 15), .ref (am 16), .int msz, .ref (am 17), .int mat, .int mso, .int mfo])),
   (am 1, .inl (G.2 0, 81, .inl mtr)), (am 2, .inl (G.2 0, 648, .inl men)), (am 3, .inl (G.2 0, 648, .inl mmk)), (am 4, .inl (G.2 0, 8, .inl mpr)), (am 5, .inl (G.2 0, 8, .inl mhp)), (am 6, .inl (G.2 2, 8, .inr (.inl mct))), (am 7, .inl (G.2 2, 8, .inr (.inl mtd))), (am 8, .inl (G.2 1, 8, .inl mru)),
   (am 9, .inl (G.2 0, 600, .inl mwh)), (am 10, .inl (G.2 0, 600, .inl mwe)), (am 11, .inl (G.2 0, 600, .inl mwt)), (am 12, .inl (G.2 0, 600, .inl mbf)), (am 13, .inl (G.2 0, 600, .inl mbh)), (am 14, .inl (G.2 1, 600, .inl mon)), (am 15, .inl (G.2 0, 81, .inl mte)), (am 16, .inl (G.2 0, 81, .inl mtm)), (am 17, .inl (G.2 0, 1000, .inl mtx))]
/-- persons 0 .. k - 1 -/
def wF (G : gG) (n : Nat) (pa : Nat → Nat → Nat) (PR HC : Nat → Int32) (EN MK : Nat → Nat → Int32) (RU : Nat → Int32) (LT CT : Nat → Int64) : Nat → va_W
  | 0 => []
  | k + 1 => wF G n pa PR HC EN MK RU LT CT k ++ wP G n (pa k) (nI k) (PR k) (HC k) (EN k) (MK k) (RU k) (LT k) (CT k)
/-- .. but j -/
def wX (G : gG) (n : Nat) (j : Nat) (pa : Nat → Nat → Nat) (PR HC : Nat → Int32) (EN MK : Nat → Nat → Int32) (RU : Nat → Int32) (LT CT : Nat → Int64) : Nat → va_W
  | 0 => []
  | k + 1 => wX G n j pa PR HC EN MK RU LT CT k ++ (if k = j then [] else wP G n (pa k) (nI k) (PR k) (HC k) (EN k) (MK k) (RU k) (LT k) (CT k))
section WF
variable {G : gG} {n : Nat} {pa pa' : Nat → Nat → Nat} {PR HC RU PR' HC' RU' : Nat → Int32} {EN MK EN' MK' : Nat → Nat → Int32} {LT CT LT' CT' : Nat → Int64}
theorem wX_ge {j : Nat} : ∀ k, k ≤ j → wX G n j pa PR HC EN MK RU LT CT k = wF G n pa PR HC EN MK RU LT CT k := by
  intro k
  induction k with
  | zero => intro _; rfl
  | succ k ih =>
    intro h
    show wX G n j pa PR HC EN MK RU LT CT k ++ (if k = j then [] else _) = _
    rw [if_neg (by omega), ih (by omega)]
    rfl
theorem wF_focus {j : Nat} : ∀ k, j < k → (wF G n pa PR HC EN MK RU LT CT k).Perm (wP G n (pa j) (nI j) (PR j) (HC j) (EN j) (MK j) (RU j) (LT j) (CT j) ++ wX G n j pa PR HC EN MK RU LT CT k) := by
  intro k
  induction k with
  | zero => intro h; omega
  | succ k ih =>
    intro h
    show (wF G n pa PR HC EN MK RU LT CT k ++ _).Perm (_ ++ (wX G n j pa PR HC EN MK RU LT CT k ++ (if k = j then [] else _)))
    by_cases hk : k = j
    · subst hk
      rw [if_pos rfl, List.append_nil, wX_ge k (Nat.le_refl k)]
      exact List.perm_append_comm
    · rw [if_neg hk, ← List.append_assoc]
      exact (ih (by omega)).append_right _
/-- the others don't see a change at j -/
theorem wX_same {j : Nat} (h : ∀ i, i ≠ j → pa' i = pa i ∧ PR' i = PR i ∧ HC' i = HC i ∧ EN' i = EN i ∧ MK' i = MK i ∧ RU' i = RU i ∧ LT' i = LT i ∧ CT' i = CT i) : ∀ k, wX G n j pa' PR' HC' EN' MK' RU' LT' CT' k = wX G n j pa PR HC EN MK RU LT CT k := by
  intro k
  induction k with
  | zero => rfl
  | succ k ih =>
    show wX G n j pa' PR' HC' EN' MK' RU' LT' CT' k ++ (if k = j then [] else _) = wX G n j pa PR HC EN MK RU LT CT k ++ (if k = j then [] else _)
    rw [ih]
    by_cases hk : k = j
    · rw [if_pos hk, if_pos hk]
    · obtain ⟨h1, h2, h3, h4, h5, h6, h7, h8⟩ := h k hk
      rw [if_neg hk, if_neg hk, h1, h2, h3, h4, h5, h6, h7, h8]
theorem wF_same : ∀ k, (∀ i, i < k → pa' i = pa i ∧ PR' i = PR i ∧ HC' i = HC i ∧ EN' i = EN i ∧ MK' i = MK i ∧ RU' i = RU i ∧ LT' i = LT i ∧ CT' i = CT i) → wF G n pa' PR' HC' EN' MK' RU' LT' CT' k = wF G n pa PR HC EN MK RU LT CT k := by
  intro k
  induction k with
  | zero => intro _; rfl
  | succ k ih =>
    intro h
    obtain ⟨h1, h2, h3, h4, h5, h6, h7, h8⟩ := h k (by omega)
    show wF G n pa' PR' HC' EN' MK' RU' LT' CT' k ++ _ = wF G n pa PR HC EN MK RU LT CT k ++ _
    rw [ih (fun i hi => h i (by omega)), h1, h2, h3, h4, h5, h6, h7, h8]
end WF
theorem rng_map {α : Type} (ws : List α) : (List.range ws.length).map (fun i => ws[i]?) = ws.map some := by
  apply List.ext_getElem?
  intro i
  by_cases h : i < ws.length <;> simp [h]
theorem fm_some {α : Type} (l : List α) : (l.map some).filterMap id = l := by
  rw [List.filterMap_map]
  exact List.filterMap_some
theorem pIdx {α : Type} {ws sel oth : List α} (is1 is2 : List Nat) (N : Nat) (hl : ws.length = N) (hp : (is1 ++ is2).Perm (List.range N)) (h1 : is1.map (fun i => ws[i]?) = sel.map some) (h2 : is2.map (fun i => ws[i]?) = oth.map some) : ws.Perm (sel ++ oth) := by
  have hm : ((is1 ++ is2).map (fun i => ws[i]?)).Perm (ws.map some) := by rw [← rng_map, hl]; exact hp.map _
  rw [List.map_append, h1, h2, ← List.map_append] at hm
  have h3 := hm.filterMap id
  rw [fm_some, fm_some] at h3
  exact h3.symm
/-- class with one person: its cells first -/
theorem pK1 {A B F P X sel oth : va_W} (hF : F.Perm (P ++ X)) (is1 is2 : List Nat) (N : Nat) (hl : (A ++ P).length = N) (hp : (is1 ++ is2).Perm (List.range N)) (h1 : is1.map (fun i => (A ++ P)[i]?) = sel.map some) (h2 : is2.map (fun i => (A ++ P)[i]?) = oth.map some) : (A ++ (B ++ F)).Perm (sel ++ (oth ++ (B ++ X))) := by
  have e1 : (A ++ (B ++ F)).Perm (A ++ (B ++ (P ++ X))) := (hF.append_left B).append_left A
  have e2 : (A ++ (B ++ (P ++ X))).Perm (A ++ (P ++ (B ++ X))) := (List.perm_append_comm_assoc B P X).append_left A
  have e3 : ((A ++ P) ++ (B ++ X)).Perm ((sel ++ oth) ++ (B ++ X)) := (pIdx is1 is2 N hl hp h1 h2).append_right _
  rw [List.append_assoc, List.append_assoc] at e3
  exact (e1.trans e2).trans e3
/-- class alone -/
theorem pK0 {A B F sel oth : va_W} (is1 is2 : List Nat) (N : Nat) (hl : A.length = N) (hp : (is1 ++ is2).Perm (List.range N)) (h1 : is1.map (fun i => A[i]?) = sel.map some) (h2 : is2.map (fun i => A[i]?) = oth.map some) : (A ++ (B ++ F)).Perm (sel ++ (oth ++ (B ++ F))) := by
  have e3 : (A ++ (B ++ F)).Perm ((sel ++ oth) ++ (B ++ F)) := (pIdx is1 is2 N hl hp h1 h2).append_right _
  rw [List.append_assoc] at e3
  exact e3
/-- reference -/
theorem pKM {A B F sel oth : va_W} (is1 is2 : List Nat) (N : Nat) (hl : B.length = N) (hp : (is1 ++ is2).Perm (List.range N)) (h1 : is1.map (fun i => B[i]?) = sel.map some) (h2 : is2.map (fun i => B[i]?) = oth.map some) : (A ++ (B ++ F)).Perm (sel ++ (oth ++ (A ++ F))) := by
  have e1 : (A ++ (B ++ F)).Perm (B ++ (A ++ F)) := List.perm_append_comm_assoc A B F
  have e3 : (B ++ (A ++ F)).Perm ((sel ++ oth) ++ (A ++ F)) := (pIdx is1 is2 N hl hp h1 h2).append_right _
  rw [List.append_assoc] at e3
  exact e1.trans e3
