/-! TRIED -/
section TRIED
variable {bn cf sm : Nat} {M : Cm} {S : Ms} {g : Nat → Nat × Nat × Nat} {pi : Nat → Nat} {rc cc : Nat}
/-- TRIED: two words with the class -/
theorem CG.em2 (h : CG bn cf sm M S g pi rc cc) (hcf : cf + rc < 20000) :
    CG bn cf sm (emC (emC M sm cc (wd 19 0 0)) sm (cc + 1) (wd 16 0 0)) (emS S (cf + rc) rc 13 0 0) (fun i => if i = rc then (31, 0, 0) else g i) (fun i => if i = rc + 1 then cc + 2 else pi i) (rc + 1) (cc + 2) := by
  have hmono := h.mono
  obtain ⟨q1, q2, q3, q4, q5, q6, q7, q8⟩ := h
  have eL : ∀ j, cL (emC (emC M sm cc (wd 19 0 0)) sm (cc + 1) (wd 16 0 0)) (sm + 10) j = if j = cc + 1 then wd 16 0 0 else if j = cc then wd 19 0 0 else cL M (sm + 10) j := fun j => by
    unfold emC
    rw [cL_I, cL_w, cL_I, cL_w]
    simp
  have e39 : ∀ j, mA (emS S (cf + rc) rc 13 0 0) 39 j = if j = cf + rc then 13 else mA S 39 j := fun j => by
    unfold emS
    rw [mA_F, mA_Ane _ _ _ (by decide), mA_Ane _ _ _ (by decide), mA_A]
    simp
  have e40 : ∀ j, mA (emS S (cf + rc) rc 13 0 0) 40 j = if j = cf + rc then 0 else mA S 40 j := fun j => by
    unfold emS
    rw [mA_F, mA_Ane _ _ _ (by decide), mA_A, mA_Ane _ _ _ (by decide)]
    simp
  have e41 : ∀ j, mA (emS S (cf + rc) rc 13 0 0) 41 j = if j = cf + rc then 0 else mA S 41 j := fun j => by
    unfold emS
    rw [mA_F, mA_A, mA_Ane _ _ _ (by decide), mA_Ane _ _ _ (by decide)]
    simp
  have o28 : mA (emS S (cf + rc) rc 13 0 0) 28 = mA S 28 := by
    unfold emS
    rw [mA_F, mA_Ane _ _ _ (by decide), mA_Ane _ _ _ (by decide), mA_Ane _ _ _ (by decide)]
  have o29 : mA (emS S (cf + rc) rc 13 0 0) 29 = mA S 29 := by
    unfold emS
    rw [mA_F, mA_Ane _ _ _ (by decide), mA_Ane _ _ _ (by decide), mA_Ane _ _ _ (by decide)]
  have tx : tw (31, 0, 0) = 2 := rfl
  generalize emS S (cf + rc) rc 13 0 0 = S' at *
  generalize emC (emC M sm cc (wd 19 0 0)) sm (cc + 1) (wd 16 0 0) = M' at *
  have lt : ∀ i, i < rc → pi i + tw (g i) ≤ cc := fun i hi => by rw [← q1]; exact hmono rc (Nat.le_refl _) i hi
  refine ⟨if_pos rfl, fun i hi => ?_, fun i hi => ?_, fun i hi h0 => ?_, fun i hi h0 => ?_, fun i hi h0 => ?_, fun i hi h0 h1 => ?_, fun i hi => ?_⟩
  · by_cases e : i = rc
    · subst e
      simp only [↓reduceIte, if_neg (show ¬ i = i + 1 by omega)]
      rw [eL, if_neg (by omega), if_pos q1, e39, e40, e41, if_pos rfl, if_pos rfl, if_pos rfl]
      exact ⟨rfl, rfl, rfl, rfl⟩
    · have hi' : i < rc := by omega
      obtain ⟨w1, w2, w3, w4⟩ := q2 i hi'
      have := lt i hi'
      have := (tw_pos (g i)).1
      simp only [if_neg e, if_neg (show ¬ i = rc + 1 by omega)]
      rw [eL, if_neg (by omega), if_neg (by omega), e39, e40, e41, if_neg (by omega), if_neg (by omega), if_neg (by omega), w1]
      refine ⟨(cwd_ag o28 o29 (fun a1 a2 => ?_)).symm, w2, w3, w4⟩
      have := q7 i hi' a1 a2
      rw [if_neg (by omega)]
  · by_cases e : i = rc
    · subst e
      simp only [↓reduceIte, if_neg (show ¬ i = i + 1 by omega), tx, q1]
      omega
    · simp only [if_neg e, if_neg (show ¬ i = rc + 1 by omega), if_neg (show ¬ i + 1 = rc + 1 by omega)]
      exact q3 i (by omega)
  · by_cases e : i = rc
    · subst e
      simp only [↓reduceIte, if_neg (show ¬ i = i + 1 by omega), tx, q1]
    · simp only [if_neg e, if_neg (show ¬ i = rc + 1 by omega), if_neg (show ¬ i + 1 = rc + 1 by omega)] at h0 ⊢
      exact q4 i (by omega) h0
  · by_cases e : i = rc
    · subst e
      simp only [↓reduceIte] at h0
      omega
    · simp only [if_neg e, if_neg (show ¬ i = rc + 1 by omega)] at h0 ⊢
      have hi' : i < rc := by omega
      have := lt i hi'
      have ht : tw (g i) = 2 := by unfold tw; rw [if_pos (Or.inl h0)]
      have := q7 i hi' (by omega) (by omega)
      rw [eL, if_neg (by omega), if_neg (by omega), if_neg (by omega)]
      exact q5 i hi' h0
  · by_cases e : i = rc
    · subst e
      simp only [if_neg (show ¬ i = i + 1 by omega)]
      rw [eL, q1, if_pos rfl]
    · simp only [if_neg e, if_neg (show ¬ i = rc + 1 by omega)] at h0 ⊢
      have hi' : i < rc := by omega
      have := lt i hi'
      have ht : tw (g i) = 2 := by unfold tw; rw [if_pos (Or.inr h0)]
      rw [eL, if_neg (by omega), if_neg (by omega)]
      exact q6 i hi' h0
  · by_cases e : i = rc
    · subst e
      simp only [↓reduceIte] at h0 h1 ⊢
      omega
    · simp only [if_neg e] at h0 h1 ⊢
      have := q7 i (by omega) h0 h1
      omega
  · by_cases e1 : i = cc + 1
    · exact Or.inr (by rw [eL, if_pos e1]; exact NLw.wd (w := 16) (by decide) (by decide) _ _)
    · by_cases e : i = cc
      · refine Or.inl ⟨rc, by omega, ?_⟩
        show i = (if rc = rc + 1 then cc + 2 else pi rc)
        rw [if_neg (by omega), q1]; exact e
      · rcases q8 i (by omega) with ⟨c, h1, h2⟩ | h1
        · refine Or.inl ⟨c, by omega, ?_⟩
          show i = (if c = rc + 1 then cc + 2 else pi c)
          rw [if_neg (by omega)]; exact h2
        · exact Or.inr (by rw [eL, if_neg e1, if_neg e]; exact h1)
/-- a pending TRIED -/
theorem CG.aimT (h : CG bn cf sm M S g pi rc cc) {k : Nat} (hk : k < rc) (h3 : (g k).1 = 31) :
    CG bn cf sm (aimC M sm cc (pi k + 1)) (pA S 40 (cf + k) (nI (cf + rc))) (fun i => if i = k then (13, rc, 0) else g i) pi rc cc := by
  have hmono := h.mono
  obtain ⟨q1, q2, q3, q4, q5, q6, q7, q8⟩ := h
  have o28 : mA (pA S 40 (cf + k) (nI (cf + rc))) 28 = mA S 28 := mA_Ane _ _ _ (by decide)
  have o29 : mA (pA S 40 (cf + k) (nI (cf + rc))) 29 = mA S 29 := mA_Ane _ _ _ (by decide)
  obtain ⟨w1, w2, w3, w4⟩ := q2 k hk
  have tk : tw (g k) = 2 := by unfold tw; rw [if_pos (Or.inr h3)]
  have w6 := q6 k hk h3
  have kk := q3 k hk
  have ne : ∀ i, i < rc → i ≠ k → pi i ≠ pi k + 1 ∧ ((g i).1 = 13 ∨ (g i).1 = 31 → pi i + 1 ≠ pi k + 1) := fun i hi e => by
    rcases Nat.lt_or_ge i k with l | l
    · have := hmono k (by omega) i l
      have := (tw_pos (g i)).1
      exact ⟨by omega, fun _ => by omega⟩
    · have := hmono i (by omega) k (by omega)
      exact ⟨by omega, fun _ => by omega⟩
  have eL : ∀ j, cL (aimC M sm cc (pi k + 1)) (sm + 10) j = if j = pi k + 1 then wd 16 (nI cc) 0 else cL M (sm + 10) j := fun j => by
    unfold aimC
    rw [cL_w, w6, wd_w16]
    simp
  refine ⟨q1, fun i hi => ?_, fun i hi => ?_, fun i hi h0 => ?_, fun i hi h0 => ?_, fun i hi h0 => ?_, fun i hi h0 h1 => ?_, fun i hi => ?_⟩
  · by_cases e : i = k
    · subst e
      simp only [↓reduceIte]
      have m40 : mA (pA S 40 (cf + i) (nI (cf + rc))) 40 (cf + i) = nI (cf + rc) := by rw [mA_A, if_pos ⟨rfl, rfl⟩]
      have hc : cwd bn S pi (g i) = wd 19 0 0 := by unfold cwd; simp [h3]
      rw [eL, if_neg (by omega), w1, mA_Ane _ _ _ (show 39 ≠ 40 by decide), m40, mA_Ane _ _ _ (show 41 ≠ 40 by decide), w2, w4, hc]
      unfold rfd
      simp [h3]
      exact ⟨rfl, rfl⟩
    · simp only [if_neg e]
      obtain ⟨v1, v2, v3, v4⟩ := q2 i hi
      rw [eL, if_neg (ne i hi e).1, mA_Ane _ _ _ (show 39 ≠ 40 by decide), mA_A, if_neg (by omega), mA_Ane _ _ _ (show 41 ≠ 40 by decide), v1]
      exact ⟨(cwd_ag o28 o29 (fun _ _ => rfl)).symm, v2, v3, v4⟩
  · by_cases e : i = k
    · subst e
      simp only [↓reduceIte]
      have t1 : tw (13, rc, 0) = 2 := rfl
      omega
    · simp only [if_neg e]
      exact q3 i hi
  · by_cases e : i = k
    · subst e
      simp only [↓reduceIte]
      have := q4 i hi (by omega)
      have t1 : tw (13, rc, 0) = 2 := rfl
      omega
    · simp only [if_neg e] at h0 ⊢
      exact q4 i hi h0
  · by_cases e : i = k
    · subst e
      simp only [↓reduceIte]
      rw [eL, if_pos rfl, q1]
    · simp only [if_neg e] at h0 ⊢
      rw [eL, if_neg ((ne i hi e).2 (Or.inl h0))]
      exact q5 i hi h0
  · by_cases e : i = k
    · subst e
      simp only [↓reduceIte] at h0
      omega
    · simp only [if_neg e] at h0 ⊢
      rw [eL, if_neg ((ne i hi e).2 (Or.inr h0))]
      exact q6 i hi h0
  · by_cases e : i = k
    · subst e
      simp only [↓reduceIte]
      exact Nat.le_refl _
    · simp only [if_neg e] at h0 h1 ⊢
      exact q7 i hi h0 h1
  · by_cases e : i = pi k + 1
    · exact Or.inr (by rw [eL, if_pos e]; exact NLw.wd (w := 16) (by decide) (by decide) _ _)
    · rcases q8 i hi with h1 | h1
      · exact Or.inl h1
      · exact Or.inr (by rw [eL, if_neg e]; exact h1)
end TRIED
