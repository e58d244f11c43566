/-! an instruction that waited for the text's end is set -/
section PUT
variable {bn cf sm : Nat} {M : Cm} {S S' : Ms} {g : Nat → Nat × Nat × Nat} {pi : Nat → Nat} {rc cc : Nat}
theorem CG.put (h : CG bn cf sm M S g pi rc cc) {k : Nat} (hk : k < rc) (x : Nat × Nat × Nat) (ho : tw (g k) = 1 ∧ (g k).1 ≠ 0) (hx : tw x = 1 ∧ x.1 ≠ 0 ∧ ¬ (10 ≤ x.1 ∧ x.1 ≤ 13)) (h28 : mA S' 28 = mA S 28) (h29 : mA S' 29 = mA S 29)
    (e39 : ∀ j, mA S' 39 j = if j = cf + k then (rfd cf x).1 else mA S 39 j) (e40 : ∀ j, mA S' 40 j = if j = cf + k then (rfd cf x).2.1 else mA S 40 j) (e41 : ∀ j, mA S' 41 j = if j = cf + k then (rfd cf x).2.2 else mA S 41 j) :
    CG bn cf sm (wL M (sm + 10) (pi k) (cwd bn S pi x)) S' (fun i => if i = k then x else g i) pi rc cc := by
  have hmono := h.mono
  obtain ⟨q1, q2, q3, q4, q5, q6, q7, q8⟩ := h
  have x13 : x.1 ≠ 13 := by omega
  have x31 : x.1 ≠ 31 := fun q => by have := hx.1; unfold tw at this; rw [if_pos (Or.inr q)] at this; omega
  have ne : ∀ i, i < rc → i ≠ k → pi i ≠ pi k ∧ ((g i).1 = 13 ∨ (g i).1 = 31 → pi i + 1 ≠ pi k) := fun i hi e => by
    rcases Nat.lt_or_ge i k with l | l
    · have := hmono k (by omega) i l
      have := (tw_pos (g i)).1
      refine ⟨by omega, fun o => ?_⟩
      have : tw (g i) = 2 := by unfold tw; rw [if_pos o]
      omega
    · have := hmono i (by omega) k (by omega)
      have := (tw_pos (g k)).1
      exact ⟨by omega, fun _ => by omega⟩
  have eL : ∀ j, cL (wL M (sm + 10) (pi k) (cwd bn S pi x)) (sm + 10) j = if j = pi k then cwd bn S pi x else cL M (sm + 10) j := fun j => by
    rw [cL_w]
    simp
  refine ⟨q1, fun i hi => ?_, fun i hi => ?_, fun i hi h0 => ?_, fun i hi h0 => ?_, fun i hi h0 => ?_, fun i hi h0 h1 => ?_, fun i hi => ?_⟩
  · by_cases e : i = k
    · subst e
      simp only [↓reduceIte]
      rw [eL, if_pos rfl, e39, e40, e41, if_pos rfl, if_pos rfl, if_pos rfl]
      exact ⟨(cwd_ag h28 h29 (fun _ _ => rfl)).symm, rfl, rfl, rfl⟩
    · simp only [if_neg e]
      obtain ⟨v1, v2, v3, v4⟩ := q2 i hi
      rw [eL, if_neg (ne i hi e).1, e39, e40, e41, if_neg (by omega), if_neg (by omega), if_neg (by omega), v1]
      exact ⟨(cwd_ag h28 h29 (fun _ _ => rfl)).symm, v2, v3, v4⟩
  · by_cases e : i = k
    · subst e
      simp only [↓reduceIte]
      have := q3 i hi
      omega
    · simp only [if_neg e]
      exact q3 i hi
  · by_cases e : i = k
    · subst e
      simp only [↓reduceIte]
      have := q4 i hi ho.2
      omega
    · simp only [if_neg e] at h0 ⊢
      exact q4 i hi h0
  · by_cases e : i = k
    · subst e
      simp only [↓reduceIte] at h0
      exact absurd h0 x13
    · simp only [if_neg e] at h0 ⊢
      rw [eL, if_neg ((ne i hi e).2 (Or.inl h0))]
      exact q5 i hi h0
  · by_cases e : i = k
    · subst e
      simp only [↓reduceIte] at h0
      exact absurd h0 x31
    · simp only [if_neg e] at h0 ⊢
      rw [eL, if_neg ((ne i hi e).2 (Or.inr h0))]
      exact q6 i hi h0
  · by_cases e : i = k
    · subst e
      simp only [↓reduceIte] at h0 h1
      exact absurd ⟨h0, h1⟩ hx.2.2
    · simp only [if_neg e] at h0 h1 ⊢
      exact q7 i hi h0 h1
  · by_cases e : i = pi k
    · exact Or.inl ⟨k, hk, e⟩
    · rcases q8 i hi with h1 | h1
      · exact Or.inl h1
      · exact Or.inr (by rw [eL, if_neg e]; exact h1)
end PUT
