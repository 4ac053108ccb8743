/-! new persons, two persons -/
section WF2
variable {G : gG} {n : Nat} {pa : Nat → Nat → Nat} {PR HC RU : Nat → Int32} {EN MK : Nat → Nat → Int32} {LT CT : Nat → Int64}
theorem wX_has {i j : Nat} (hij : j ≠ i) : ∀ k, j < k → ∃ X, (wX G n i pa PR HC EN MK RU LT CT k).Perm (wP G n (pa j) (nI j) (PR j) (HC j) (EN j) (MK j) (RU j) (LT j) (CT j) ++ X) := by
  intro k
  induction k with
  | zero => intro h; omega
  | succ k ih =>
    intro h
    by_cases hk : k = j
    · subst hk
      refine ⟨wX G n i pa PR HC EN MK RU LT CT k, ?_⟩
      show (wX G n i pa PR HC EN MK RU LT CT k ++ (if k = i then [] else _)).Perm _
      rw [if_neg hij]
      exact List.perm_append_comm
    · obtain ⟨X, hX⟩ := ih (by omega)
      refine ⟨X ++ (if k = i then [] else wP G n (pa k) (nI k) (PR k) (HC k) (EN k) (MK k) (RU k) (LT k) (CT k)), ?_⟩
      show (wX G n i pa PR HC EN MK RU LT CT k ++ _).Perm _
      rw [← List.append_assoc]
      exact hX.append_right _
theorem wF_two {i j k : Nat} (hi : i < k) (hj : j < k) (hij : i ≠ j) : ∃ X, (wF G n pa PR HC EN MK RU LT CT k).Perm ((wP G n (pa i) (nI i) (PR i) (HC i) (EN i) (MK i) (RU i) (LT i) (CT i) ++ wP G n (pa j) (nI j) (PR j) (HC j) (EN j) (MK j) (RU j) (LT j) (CT j)) ++ X) := by
  obtain ⟨X, hX⟩ := wX_has (G := G) (n := n) (pa := pa) (PR := PR) (HC := HC) (EN := EN) (MK := MK) (RU := RU) (LT := LT) (CT := CT) (i := i) (j := j) (fun h => hij h.symm) k hj
  refine ⟨X, (wF_focus k hi).trans ?_⟩
  rw [List.append_assoc]
  exact hX.append_left _
theorem wF_new {k : Nat} {b : Nat → Nat} {pr hc ru : Int32} {en mk : Nat → Int32} {lt ct : Int64} : wF G n (va_up pa k b) (va_up PR k pr) (va_up HC k hc) (va_up EN k en) (va_up MK k mk) (va_up RU k ru) (va_up LT k lt) (va_up CT k ct) (k + 1) = wF G n pa PR HC EN MK RU LT CT k ++ wP G n b (nI k) pr hc en mk ru lt ct := by
  show wF G n _ _ _ _ _ _ _ _ k ++ _ = _
  rw [wF_same (pa := pa) (PR := PR) (HC := HC) (EN := EN) (MK := MK) (RU := RU) (LT := LT) (CT := CT) k (fun i hi => ⟨va_up_ne _ _ (by omega), va_up_ne _ _ (by omega), va_up_ne _ _ (by omega), va_up_ne _ _ (by omega), va_up_ne _ _ (by omega), va_up_ne _ _ (by omega), va_up_ne _ _ (by omega), va_up_ne _ _ (by omega)⟩)]
  simp only [va_up_self]
end WF2
/-- the class's cells behind a call that made a person -/
theorem pN {A B F P X N lit sel oth : va_W} (hlit : lit = sel ++ N) (hF : F.Perm (P ++ X)) (is1 is2 : List Nat) (M : Nat) (hl : (A ++ P).length = M) (hp : (is1 ++ is2).Perm (List.range M)) (h1 : is1.map (fun i => (A ++ P)[i]?) = sel.map some) (h2 : is2.map (fun i => (A ++ P)[i]?) = oth.map some) : (lit ++ (oth ++ (B ++ X))).Perm (A ++ (B ++ (F ++ N))) := by
  subst hlit
  have e1 : ((sel ++ N) ++ (oth ++ (B ++ X))).Perm (N ++ (sel ++ (oth ++ (B ++ X)))) := by
    rw [List.append_assoc]
    exact List.perm_append_comm_assoc sel N _
  have e2 : (N ++ (sel ++ (oth ++ (B ++ X)))).Perm (N ++ (A ++ (B ++ F))) := ((pK1 (B := B) hF is1 is2 M hl hp h1 h2).symm).append_left N
  have e3 : (N ++ (A ++ (B ++ F))).Perm ((A ++ (B ++ F)) ++ N) := List.perm_append_comm
  rw [List.append_assoc, List.append_assoc] at e3
  exact (e1.trans e2).trans e3
