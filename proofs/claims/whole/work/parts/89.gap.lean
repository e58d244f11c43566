/-! a unit's start: the class has words of its own there -/
section GAP
variable {bn cf sm : Nat} {M M' : Cm} {S : Ms} {g : Nat → Nat × Nat × Nat} {pi : Nat → Nat} {rc cc cc' : Nat}
theorem CG.gap (h : CG bn cf sm M S g pi rc cc) (hs : ∀ i, i < rc → 10 ≤ (g i).1 → (g i).1 ≤ 13 → (g i).2.1 < rc) (he : ∀ i, i + 1 = rc → (g i).1 = 0) (hM : ∀ j, j < cc → cL M' (sm + 10) j = cL M (sm + 10) j) (hc : cc ≤ cc') (hn : ∀ j, cc ≤ j → j < cc' → NLw (cL M' (sm + 10) j)) : CG bn cf sm M' S g (fun i => if i = rc then cc' else pi i) rc cc' := by
  have hmono := h.mono
  obtain ⟨q1, q2, q3, q4, q5, q6, q7, q8⟩ := h
  have lt : ∀ i, i < rc → pi i + tw (g i) ≤ cc := fun i hi => by rw [← q1]; exact hmono rc (Nat.le_refl _) i hi
  refine ⟨if_pos rfl, fun i hi => ?_, fun i hi => ?_, fun i hi h0 => ?_, fun i hi h0 => ?_, fun i hi h0 => ?_, q7, fun i hi => ?_⟩
  · obtain ⟨w1, w2, w3, w4⟩ := q2 i hi
    have := lt i hi
    have := (tw_pos (g i)).1
    simp only [if_neg (show ¬ i = rc by omega)]
    rw [hM _ (by omega), w1]
    refine ⟨(cwd_ag rfl rfl (fun a1 a2 => ?_)).symm, w2, w3, w4⟩
    have := hs i hi a1 a2
    rw [if_neg (by omega)]
  · have := lt i hi
    simp only [if_neg (show ¬ i = rc by omega)]
    by_cases e : i + 1 = rc
    · rw [if_pos e]; omega
    · rw [if_neg e]; exact q3 i hi
  · simp only [if_neg (show ¬ i = rc by omega)]
    by_cases e : i + 1 = rc
    · exact absurd (he i e) h0
    · rw [if_neg e]; exact q4 i hi h0
  · have := lt i hi
    have ht : tw (g i) = 2 := by unfold tw; rw [if_pos (Or.inl h0)]
    have := hs i hi (by omega) (by omega)
    simp only [if_neg (show ¬ i = rc by omega), if_neg (show ¬ (g i).2.1 = rc by omega)]
    rw [hM _ (by omega)]
    exact q5 i hi h0
  · have := lt i hi
    have ht : tw (g i) = 2 := by unfold tw; rw [if_pos (Or.inr h0)]
    simp only [if_neg (show ¬ i = rc by omega)]
    rw [hM _ (by omega)]
    exact q6 i hi h0
  · by_cases e : i < cc
    · rcases q8 i e with ⟨c, h1, h2⟩ | h1
      · refine Or.inl ⟨c, h1, ?_⟩
        show i = (if c = rc then cc' else pi c)
        rw [if_neg (by omega)]; exact h2
      · exact Or.inr (by rw [hM _ e]; exact h1)
    · exact Or.inr (hn i (by omega) hi)
/-- which joints a level has -/
theorem j_ok (N : Nat) (K : Ka) (M : Cm) (lv k : Int32) : fC_X3_isJoint N K lv k M = some (if lv = 0 then (if k = 60 ∨ k = 61 then 1 else 0) else if lv = 1 then (if k = 43 ∨ k = 45 then 1 else 0) else (if k = 42 ∨ k = 47 ∨ k = 37 then 1 else 0), M) := by
  unfold fC_X3_isJoint bC_X3_isJoint_40 bC_X3_isJoint_45 bC_X3_isJoint_58 bC_X3_isJoint_63 bC_X3_isJoint_82 bC_X3_isJoint_87
  by_cases h0 : lv = 0
  · rw [if_pos h0, if_pos h0]
    by_cases a : k = 60
    · rw [if_pos a, if_pos (Or.inl a)]; rfl
    · rw [if_neg a]
      by_cases b : k = 61
      · rw [if_pos b, if_pos (Or.inr b)]; rfl
      · rw [if_neg b, if_neg (fun q => q.elim a b)]; rfl
  · rw [if_neg h0, if_neg h0]
    by_cases h1 : lv = 1
    · rw [if_pos h1, if_pos h1]
      by_cases a : k = 43
      · rw [if_pos a, if_pos (Or.inl a)]; rfl
      · rw [if_neg a]
        by_cases b : k = 45
        · rw [if_pos b, if_pos (Or.inr b)]; rfl
        · rw [if_neg b, if_neg (fun q => q.elim a b)]; rfl
    · rw [if_neg h1, if_neg h1]
      by_cases a : k = 42
      · rw [if_pos a, if_pos (Or.inl a)]; rfl
      · rw [if_neg a]
        by_cases b : k = 47
        · rw [if_pos b, if_pos (Or.inr (Or.inl b))]; rfl
        · rw [if_neg b]
          by_cases c : k = 37
          · rw [if_pos c, if_pos (Or.inr (Or.inr c))]; rfl
          · rw [if_neg c, if_neg (fun q => q.elim a (fun q => q.elim b c))]; rfl
end GAP
