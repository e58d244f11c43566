/-! jumps aimed at the place behind the last instruction -/
section AIM
variable {bn cf sm : Nat} {M : Cm} {S : Ms} {g : Nat → Nat × Nat × Nat} {pi : Nat → Nat} {rc cc : Nat}
theorem wd_w17 : (wd 17 0 0).toInt32 &&& 255 = 17 := wd_what (w := 17) (by decide) 0 0
theorem wd_w16 : (wd 16 0 0).toInt32 &&& 255 = 16 := wd_what (w := 16) (by decide) 0 0
theorem wd_w18 : (wd 18 0 0).toInt32 &&& 255 = 18 := wd_what (w := 18) (by decide) 0 0
/-- a pending UNLESS, JUMP, TRY -/
theorem CG.aim (h : CG bn cf sm M S g pi rc cc) {k : Nat} (hk : k < rc) (hx : (g k).1 = 28 ∧ (g k).2 = (0, 0) ∨ (g k).1 = 29 ∧ (g k).2 = (0, 0) ∨ (g k).1 = 30 ∧ (g k).2 = (0, 0)) :
    CG bn cf sm (aimC M sm cc (pi k)) (pA S 40 (cf + k) (nI (cf + rc))) (fun i => if i = k then (if (g k).1 = 28 then 11 else if (g k).1 = 29 then 10 else 12, rc, 0) else g i) pi rc cc := by
  have hmono := h.mono
  obtain ⟨q1, q2, q3, q4, q5, q6, q7, q8⟩ := h
  have o28 : mA (pA S 40 (cf + k) (nI (cf + rc))) 28 = mA S 28 := mA_Ane _ _ _ (by decide)
  have o29 : mA (pA S 40 (cf + k) (nI (cf + rc))) 29 = mA S 29 := mA_Ane _ _ _ (by decide)
  obtain ⟨w1, w2, w3, w4⟩ := q2 k hk
  have h3 : (g k).1 = 28 ∨ (g k).1 = 29 ∨ (g k).1 = 30 := by rcases hx with h | h | h <;> omega
  have ne : ∀ i, i < rc → i ≠ k → pi i ≠ pi k ∧ ((g i).1 = 13 ∨ (g i).1 = 31 → pi i + 1 ≠ pi k) := fun i hi e => by
    rcases Nat.lt_or_ge i k with l | l
    · have := hmono k (by omega) i l
      have := (tw_pos (g i)).1
      refine ⟨by omega, fun o => ?_⟩
      have : tw (g i) = 2 := by unfold tw; rw [if_pos o]
      omega
    · have := hmono i (by omega) k (by omega)
      have := (tw_pos (g k)).1
      exact ⟨by omega, fun _ => by omega⟩
  have eL : ∀ j, cL (aimC M sm cc (pi k)) (sm + 10) j = if j = pi k then wd (((cL M (sm + 10) (pi k) : Int64).toInt32) &&& 255) (nI cc) 0 else cL M (sm + 10) j := fun j => by
    unfold aimC
    rw [cL_w]
    simp
  have tk : tw (g k) = 1 := by unfold tw; rw [if_neg (by omega)]
  refine ⟨q1, fun i hi => ?_, fun i hi => ?_, fun i hi h0 => ?_, fun i hi h0 => ?_, fun i hi h0 => ?_, fun i hi h0 h1 => ?_, fun i hi => ?_⟩
  · by_cases e : i = k
    · subst e
      simp only [↓reduceIte]
      have m40 : mA (pA S 40 (cf + i) (nI (cf + rc))) 40 (cf + i) = nI (cf + rc) := by rw [mA_A, if_pos ⟨rfl, rfl⟩]
      have eLi := eL (pi i)
      rw [if_pos rfl] at eLi
      rw [eLi, w1, mA_Ane _ _ _ (show 39 ≠ 40 by decide), m40, mA_Ane _ _ _ (show 41 ≠ 40 by decide), w2, w4]
      rcases h3 with e8 | e8 | e8
      · have hc : cwd bn S pi (g i) = wd 17 0 0 := by unfold cwd; simp [e8]
        rw [hc, wd_w17]
        unfold rfd cwd
        simp [e8, q1]
        rfl
      · have hc : cwd bn S pi (g i) = wd 16 0 0 := by unfold cwd; simp [e8]
        rw [hc, wd_w16]
        unfold rfd cwd
        simp [e8, q1]
        rfl
      · have hc : cwd bn S pi (g i) = wd 18 0 0 := by unfold cwd; simp [e8]
        rw [hc, wd_w18]
        unfold rfd cwd
        simp [e8, q1]
        rfl
    · simp only [if_neg e]
      obtain ⟨v1, v2, v3, v4⟩ := q2 i hi
      rw [eL, if_neg (ne i hi e).1, mA_Ane _ _ _ (show 39 ≠ 40 by decide), mA_A, if_neg (by omega), mA_Ane _ _ _ (show 41 ≠ 40 by decide), v1]
      exact ⟨(cwd_ag o28 o29 (fun _ _ => rfl)).symm, v2, v3, v4⟩
  · by_cases e : i = k
    · subst e
      simp only [↓reduceIte]
      have := q3 i hi
      have t1 : tw (if (g i).1 = 28 then 11 else if (g i).1 = 29 then 10 else 12, rc, 0) = 1 := by
        unfold tw
        rcases h3 with e8 | e8 | e8 <;> simp [e8]
      omega
    · simp only [if_neg e]
      exact q3 i hi
  · by_cases e : i = k
    · subst e
      simp only [↓reduceIte]
      have := q4 i hi (by omega)
      have t1 : tw (if (g i).1 = 28 then 11 else if (g i).1 = 29 then 10 else 12, rc, 0) = 1 := by
        unfold tw
        rcases h3 with e8 | e8 | e8 <;> simp [e8]
      omega
    · simp only [if_neg e] at h0 ⊢
      exact q4 i hi h0
  · by_cases e : i = k
    · subst e
      simp only [↓reduceIte] at h0
      rcases h3 with e8 | e8 | e8 <;> simp [e8] at h0
    · simp only [if_neg e] at h0 ⊢
      rw [eL, if_neg ((ne i hi e).2 (Or.inl h0))]
      exact q5 i hi h0
  · by_cases e : i = k
    · subst e
      simp only [↓reduceIte] at h0
      rcases h3 with e8 | e8 | e8 <;> simp [e8] at h0
    · simp only [if_neg e] at h0 ⊢
      rw [eL, if_neg ((ne i hi e).2 (Or.inr h0))]
      exact q6 i hi h0
  · by_cases e : i = k
    · subst e
      simp only [↓reduceIte]
      exact Nat.le_refl _
    · simp only [if_neg e] at h0 h1 ⊢
      exact q7 i hi h0 h1
  · by_cases e : i = pi k
    · exact Or.inl ⟨k, hk, e⟩
    · rcases q8 i hi with h1 | h1
      · exact Or.inl h1
      · exact Or.inr (by rw [eL, if_neg e]; exact h1)
end AIM
