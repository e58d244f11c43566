/-! the instructions of both: a ghost code g (op, p, q) and where each stands with the class -/
def g3 (op p q : Nat) : Nat × Nat × Nat := (op, p, q)
def sl8 (bn p q : Nat) : Nat := 8 * (24 * bn + p) + q
/-- the class's word -/
def cwd (bn : Nat) (S : Ms) (pi : Nat → Nat) (g : Nat × Nat × Nat) : Int64 :=
  if g.1 = 0 then wd 20 0 0 else if g.1 = 1 then wd 1 0 0 else if g.1 = 2 then wd 2 0 (nI g.2.1)
  else if g.1 = 3 then wd 3 (nI g.2.1) (mA S 28 (sl8 bn g.2.1 g.2.2)) else if g.1 = 4 then wd 4 (nI g.2.1) (mA S 29 (sl8 bn g.2.1 g.2.2)) else if g.1 = 5 then wd 5 (nI g.2.1) (mA S 29 (sl8 bn g.2.1 g.2.2))
  else if g.1 = 6 then wd 6 (nI g.2.1) 0 else if g.1 = 7 then wd 13 (nI g.2.1) 0 else if g.1 = 8 then wd 14 0 0 else if g.1 = 9 then wd 15 (nI g.2.1) 0
  else if g.1 = 10 then wd 16 (nI (pi g.2.1)) 0 else if g.1 = 11 then wd 17 (nI (pi g.2.1)) 0 else if g.1 = 12 then wd 18 (nI (pi g.2.1)) 0 else if g.1 = 13 then wd 19 0 0
  else if g.1 = 14 then wd 10 (nI g.2.1) 0 else if g.1 = 15 then wd 11 0 0 else if g.1 = 16 then wd 12 0 0 else if g.1 = 17 then wd 9 0 0 else if g.1 = 18 then wd 42 0 0 else if g.1 = 19 then wd 47 0 0 else if g.1 = 20 then wd 37 0 0
  else if g.1 = 21 then wd 43 0 0 else if g.1 = 22 then wd 45 0 0 else if g.1 = 23 then wd 60 0 0 else if g.1 = 24 then wd 61 0 0
  else if g.1 = 25 then wd 21 (nI g.2.1) (nI g.2.2 - 1) else if g.1 = 26 then wd 22 (nI g.2.1) (nI g.2.2 - 1) else if g.1 = 27 then wd 23 (nI g.2.1) (nI g.2.2 - 1)
  else if g.1 = 28 then wd 17 0 0 else if g.1 = 29 then wd 16 0 0 else if g.1 = 30 then wd 18 0 0 else wd 19 0 0
/-- the reference's op, one, two -/
def rfd (cf : Nat) (g : Nat × Nat × Nat) : Int32 × Int32 × Int32 :=
  if g.1 = 3 ∨ g.1 = 4 ∨ g.1 = 5 then (nI g.1, nI g.2.1, nI g.2.2) else if g.1 = 2 ∨ g.1 = 6 ∨ g.1 = 7 ∨ g.1 = 9 ∨ g.1 = 14 then (nI g.1, nI g.2.1, 0)
  else if 10 ≤ g.1 ∧ g.1 ≤ 13 then (nI g.1, nI (cf + g.2.1), 0) else if g.1 = 25 then (4, 0, 0) else if g.1 = 26 then (5, -1, -1) else if g.1 = 27 then (6, 0, 0)
  else if g.1 = 28 then (11, 0, 0) else if g.1 = 29 then (10, 0, 0) else if g.1 = 30 then (12, 0, 0) else if g.1 = 31 then (13, 0, 0) else (nI g.1, 0, 0)
/-- two words at TRIED: LEAVE and JUMP -/
def tw (g : Nat × Nat × Nat) : Nat := if g.1 = 13 ∨ g.1 = 31 then 2 else 1
/-- a word of the class that doesn't wait for the text's end -/
def NLw (w : Int64) : Prop := ¬ (w.toInt32 &&& 255) = 21 ∧ ¬ (w.toInt32 &&& 255) = 22 ∧ ¬ (w.toInt32 &&& 255) = 23
theorem NLw.wd {w : Nat} (hw : w < 256) (h : w ≠ 21 ∧ w ≠ 22 ∧ w ≠ 23) (f s : Int32) : NLw (wd (nI w) f s) := by
  unfold NLw
  rw [wd_what hw]
  exact ⟨fun q => h.1 ((nI_eq (b := 21) (by omega) (by decide)).mp q), fun q => h.2.1 ((nI_eq (b := 22) (by omega) (by decide)).mp q), fun q => h.2.2 ((nI_eq (b := 23) (by omega) (by decide)).mp q)⟩
def CG (bn cf sm : Nat) (M : Cm) (S : Ms) (g : Nat → Nat × Nat × Nat) (pi : Nat → Nat) (rc cc : Nat) : Prop :=
  pi rc = cc ∧ (∀ i, i < rc → cL M (sm + 10) (pi i) = cwd bn S pi (g i) ∧ mA S 39 (cf + i) = (rfd cf (g i)).1 ∧ mA S 40 (cf + i) = (rfd cf (g i)).2.1 ∧ mA S 41 (cf + i) = (rfd cf (g i)).2.2) ∧
  (∀ i, i < rc → pi i + tw (g i) ≤ pi (i + 1)) ∧ (∀ i, i < rc → (g i).1 ≠ 0 → pi (i + 1) = pi i + tw (g i)) ∧
  (∀ i, i < rc → (g i).1 = 13 → cL M (sm + 10) (pi i + 1) = wd 16 (nI (pi (g i).2.1)) 0) ∧ (∀ i, i < rc → (g i).1 = 31 → cL M (sm + 10) (pi i + 1) = wd 16 0 0) ∧
  (∀ i, i < rc → 10 ≤ (g i).1 → (g i).1 ≤ 13 → (g i).2.1 ≤ rc) ∧ ∀ i, i < cc → (∃ c, c < rc ∧ i = pi c) ∨ NLw (cL M (sm + 10) i)
theorem cwd_ag {bn : Nat} {S S' : Ms} {pi pi' : Nat → Nat} {g : Nat × Nat × Nat} (h28 : mA S' 28 = mA S 28) (h29 : mA S' 29 = mA S 29) (hp : 10 ≤ g.1 → g.1 ≤ 13 → pi' g.2.1 = pi g.2.1) : cwd bn S' pi' g = cwd bn S pi g := by
  unfold cwd
  rw [h28, h29]
  by_cases h : 10 ≤ g.1 ∧ g.1 ≤ 13
  · rw [hp h.1 h.2]
  · rw [if_neg (show ¬ g.1 = 10 by omega), if_neg (show ¬ g.1 = 11 by omega), if_neg (show ¬ g.1 = 12 by omega), if_neg (show ¬ g.1 = 10 by omega), if_neg (show ¬ g.1 = 11 by omega), if_neg (show ¬ g.1 = 12 by omega)]
theorem tw_pos (g : Nat × Nat × Nat) : 1 ≤ tw g ∧ tw g ≤ 2 := by unfold tw; split <;> omega
section CODE
variable {bn cf sm : Nat} {M : Cm} {S : Ms} {g : Nat → Nat × Nat × Nat} {pi : Nat → Nat} {rc cc : Nat}
theorem CG.mono (h : CG bn cf sm M S g pi rc cc) : ∀ j, j ≤ rc → ∀ i, i < j → pi i + tw (g i) ≤ pi j := by
  intro j
  induction j with
  | zero => intro _ i hi; omega
  | succ j ih =>
    intro hj i hi
    have hs := h.2.2.1 j (by omega)
    have := (tw_pos (g j)).1
    by_cases e : i = j
    · subst e; exact hs
    · have := ih (by omega) i (by omega)
      omega
/-- one instruction more with both -/
theorem CG.em (h : CG bn cf sm M S g pi rc cc) (x : Nat × Nat × Nat) (h13 : x.1 ≠ 13) (h31 : x.1 ≠ 31) (hx : 10 ≤ x.1 → x.1 ≤ 13 → x.2.1 ≤ rc) (hcf : cf + rc < 20000) :
    CG bn cf sm (emC M sm cc (cwd bn S pi x)) (emS S (cf + rc) rc (rfd cf x).1 (rfd cf x).2.1 (rfd cf x).2.2) (fun i => if i = rc then x else g i) (fun i => if i = rc + 1 then cc + 1 else pi i) (rc + 1) (cc + 1) := by
  have hmono := h.mono
  obtain ⟨q1, q2, q3, q4, q5, q6, q7, q8⟩ := h
  have eL : ∀ j, cL (emC M sm cc (cwd bn S pi x)) (sm + 10) j = if j = cc then cwd bn S pi x else cL M (sm + 10) j := fun j => by
    unfold emC
    rw [cL_I, cL_w]
    simp
  have e39 : ∀ j, mA (emS S (cf + rc) rc (rfd cf x).1 (rfd cf x).2.1 (rfd cf x).2.2) 39 j = if j = cf + rc then (rfd cf x).1 else mA S 39 j := fun j => by
    unfold emS
    rw [mA_F, mA_Ane _ _ _ (by decide), mA_Ane _ _ _ (by decide), mA_A]
    simp
  have e40 : ∀ j, mA (emS S (cf + rc) rc (rfd cf x).1 (rfd cf x).2.1 (rfd cf x).2.2) 40 j = if j = cf + rc then (rfd cf x).2.1 else mA S 40 j := fun j => by
    unfold emS
    rw [mA_F, mA_Ane _ _ _ (by decide), mA_A, mA_Ane _ _ _ (by decide)]
    simp
  have e41 : ∀ j, mA (emS S (cf + rc) rc (rfd cf x).1 (rfd cf x).2.1 (rfd cf x).2.2) 41 j = if j = cf + rc then (rfd cf x).2.2 else mA S 41 j := fun j => by
    unfold emS
    rw [mA_F, mA_A, mA_Ane _ _ _ (by decide), mA_Ane _ _ _ (by decide)]
    simp
  have o28 : mA (emS S (cf + rc) rc (rfd cf x).1 (rfd cf x).2.1 (rfd cf x).2.2) 28 = mA S 28 := by
    unfold emS
    rw [mA_F, mA_Ane _ _ _ (by decide), mA_Ane _ _ _ (by decide), mA_Ane _ _ _ (by decide)]
  have o29 : mA (emS S (cf + rc) rc (rfd cf x).1 (rfd cf x).2.1 (rfd cf x).2.2) 29 = mA S 29 := by
    unfold emS
    rw [mA_F, mA_Ane _ _ _ (by decide), mA_Ane _ _ _ (by decide), mA_Ane _ _ _ (by decide)]
  have tx : tw x = 1 := by unfold tw; rw [if_neg (by omega)]
  generalize emS S (cf + rc) rc (rfd cf x).1 (rfd cf x).2.1 (rfd cf x).2.2 = S' at *
  generalize emC M sm cc (cwd bn S pi x) = M' at *
  have lt : ∀ i, i < rc → pi i + tw (g i) ≤ cc := fun i hi => by rw [← q1]; exact hmono rc (Nat.le_refl _) i hi
  refine ⟨if_pos rfl, fun i hi => ?_, fun i hi => ?_, fun i hi h0 => ?_, fun i hi h0 => ?_, fun i hi h0 => ?_, fun i hi h0 h1 => ?_, fun i hi => ?_⟩
  · by_cases e : i = rc
    · subst e
      simp only [↓reduceIte, if_neg (show ¬ i = i + 1 by omega)]
      rw [eL, if_pos q1, e39, e40, e41, if_pos rfl, if_pos rfl, if_pos rfl]
      refine ⟨(cwd_ag o28 o29 (fun a1 a2 => ?_)).symm, rfl, rfl, rfl⟩
      have := hx a1 a2
      rw [if_neg (by omega)]
    · have hi' : i < rc := by omega
      obtain ⟨w1, w2, w3, w4⟩ := q2 i hi'
      have := lt i hi'
      have := (tw_pos (g i)).1
      simp only [if_neg e, if_neg (show ¬ i = rc + 1 by omega)]
      rw [eL, if_neg (by omega), e39, e40, e41, if_neg (by omega), if_neg (by omega), if_neg (by omega), w1]
      refine ⟨(cwd_ag o28 o29 (fun a1 a2 => ?_)).symm, w2, w3, w4⟩
      have := q7 i hi' a1 a2
      rw [if_neg (by omega)]
  · by_cases e : i = rc
    · subst e
      simp only [↓reduceIte, if_neg (show ¬ i = i + 1 by omega), tx, q1]
      omega
    · simp only [if_neg e, if_neg (show ¬ i = rc + 1 by omega), if_neg (show ¬ i + 1 = rc + 1 by omega)]
      exact q3 i (by omega)
  · by_cases e : i = rc
    · subst e
      simp only [↓reduceIte, if_neg (show ¬ i = i + 1 by omega), tx, q1]
    · simp only [if_neg e, if_neg (show ¬ i = rc + 1 by omega), if_neg (show ¬ i + 1 = rc + 1 by omega)] at h0 ⊢
      exact q4 i (by omega) h0
  · by_cases e : i = rc
    · subst e
      simp only [↓reduceIte] at h0
      exact absurd h0 h13
    · simp only [if_neg e, if_neg (show ¬ i = rc + 1 by omega)] at h0 ⊢
      have hi' : i < rc := by omega
      have := lt i hi'
      have ht : tw (g i) = 2 := by unfold tw; rw [if_pos (Or.inl h0)]
      have := q7 i hi' (by omega) (by omega)
      rw [eL, if_neg (by omega), if_neg (by omega)]
      exact q5 i hi' h0
  · by_cases e : i = rc
    · subst e
      simp only [↓reduceIte] at h0
      exact absurd h0 h31
    · simp only [if_neg e, if_neg (show ¬ i = rc + 1 by omega)] at h0 ⊢
      have hi' : i < rc := by omega
      have := lt i hi'
      have ht : tw (g i) = 2 := by unfold tw; rw [if_pos (Or.inr h0)]
      rw [eL, if_neg (by omega)]
      exact q6 i hi' h0
  · by_cases e : i = rc
    · subst e
      simp only [↓reduceIte] at h0 h1 ⊢
      have := hx h0 h1
      omega
    · simp only [if_neg e] at h0 h1 ⊢
      have := q7 i (by omega) h0 h1
      omega
  · by_cases e : i = cc
    · refine Or.inl ⟨rc, by omega, ?_⟩
      show i = (if rc = rc + 1 then cc + 1 else pi rc)
      rw [if_neg (by omega), q1]; exact e
    · rcases q8 i (by omega) with ⟨c, h1, h2⟩ | h1
      · refine Or.inl ⟨c, by omega, ?_⟩
        show i = (if c = rc + 1 then cc + 1 else pi c)
        rw [if_neg (by omega)]; exact h2
      · exact Or.inr (by rw [eL, if_neg e]; exact h1)
end CODE
