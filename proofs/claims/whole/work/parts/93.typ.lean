/-! heights, tries and ranks of the instructions -/
abbrev Jt : Type := Nat × List Nat × Nat
def pp (o : Nat) : Nat := if o = 5 ∨ o = 26 ∨ o = 7 ∨ o = 8 ∨ o = 17 ∨ o = 11 ∨ o = 28 then 1 else if 18 ≤ o ∧ o ≤ 24 then 2 else 0
def ps (o : Nat) : Nat := if o = 2 ∨ o = 3 ∨ o = 4 ∨ o = 25 ∨ (14 ≤ o ∧ o ≤ 24) then 1 else 0
def ft (o : Nat) : Prop := o ≠ 0 ∧ o ≠ 10 ∧ o ≠ 29 ∧ o ≠ 13 ∧ o ≠ 31
def W1 (g : Nat → Nat × Nat × Nat) (J : Nat → Jt) (rc i : Nat) : Prop :=
  ((J i).1 ≤ 34 ∧ (J i).2.1.length ≤ 10 ∧ pp (g i).1 ≤ (J i).1) ∧
  ((g i).1 = 0 → (J i).1 = 0 ∧ (J i).2.1 = []) ∧
  (ft (g i).1 → (J (i + 1)).1 + pp (g i).1 = (J i).1 + ps (g i).1 ∧ (J (i + 1)).2.1 = (if (g i).1 = 12 ∨ (g i).1 = 30 then i :: (J i).2.1 else (J i).2.1) ∧ ((g i).1 ≠ 1 → (J i).2.2 < (J (i + 1)).2.2)) ∧
  (10 ≤ (g i).1 → (g i).1 ≤ 13 → (g i).2.1 ≤ rc ∧ (J (g i).2.1).1 + pp (g i).1 = (J i).1 ∧ (J (g i).2.1).2.1 = (if (g i).1 = 13 then (J i).2.1.tail else (J i).2.1) ∧ (J i).2.2 < (J (g i).2.1).2.2) ∧
  ((g i).1 = 12 ∨ (g i).1 = 30 → (J i).1 = 0) ∧ ((g i).1 = 13 ∨ (g i).1 = 31 → (J i).2.1 ≠ []) ∧
  (2 ≤ (g i).1 → (J i).2.2 < 90 ∧ ((g i).1 ≠ 13 → (g i).1 ≠ 31 → ∀ b tl, (J i).2.1 = b :: tl → b < i ∧ ((g b).1 = 12 ∨ (g b).1 = 30) ∧ (J b).1 = 0 ∧ (J b).2.1 = tl ∧ (J i).2.2 < (J b).2.2)) ∧
  ((g i).1 ≤ 1 → (J i).2.2 = 90)
/-- the same, but the last place's rank may rise, and one more place is there -/
theorem W1.mono {g g' : Nat → Nat × Nat × Nat} {J J' : Nat → Jt} {rc rc' i : Nat} (h : W1 g J rc i) (hi : i < rc) (hr : rc ≤ rc') (hg : g' i = g i) (hb : ∀ b, b < i → (g b).1 = 12 ∨ (g b).1 = 30 → (g' b).1 = 12 ∨ (g' b).1 = 30) (hJ : ∀ k, k < rc → J' k = J k) (h1 : (J' rc).1 = (J rc).1) (h2 : (J' rc).2.1 = (J rc).2.1) (h3 : (J rc).2.2 ≤ (J' rc).2.2) : W1 g' J' rc' i := by
  obtain ⟨a1, a2, a3, a4, a5, a6, a7, a8⟩ := h
  have e : ∀ k, k ≤ rc → (J' k).1 = (J k).1 ∧ (J' k).2.1 = (J k).2.1 ∧ (J k).2.2 ≤ (J' k).2.2 := fun k hk => by
    by_cases q : k = rc
    · subst q; exact ⟨h1, h2, h3⟩
    · rw [hJ k (by omega)]; exact ⟨rfl, rfl, Nat.le_refl _⟩
  have ei := hJ i hi
  unfold W1
  rw [hg, ei]
  refine ⟨a1, a2, fun q => ?_, fun q1 q2 => ?_, a5, a6, fun q => ?_, a8⟩
  · obtain ⟨b1, b2, b3⟩ := a3 q
    obtain ⟨e1, e2, e3⟩ := e (i + 1) (by omega)
    rw [e1, e2]
    exact ⟨b1, b2, fun w => Nat.lt_of_lt_of_le (b3 w) e3⟩
  · obtain ⟨b0, b1, b2, b3⟩ := a4 q1 q2
    obtain ⟨e1, e2, e3⟩ := e _ b0
    rw [e1, e2]
    exact ⟨Nat.le_trans b0 hr, b1, b2, Nat.lt_of_lt_of_le b3 e3⟩
  · obtain ⟨b0, b1⟩ := a7 q
    refine ⟨b0, fun o1 o2 b tl w => ?_⟩
    obtain ⟨c1, c2, c3, c4, c5⟩ := b1 o1 o2 b tl w
    rw [hJ b (by omega)]
    exact ⟨c1, hb b c1 c2, c3, c4, c5⟩
/-- what stands behind an instruction -/
def nxt (rc o : Nat) (j : Jt) : Jt := (j.1 - pp o + ps o, if o = 12 ∨ o = 30 then rc :: j.2.1 else if o = 13 ∨ o = 31 then j.2.1.tail else j.2.1, if o = 0 ∨ o = 10 ∨ o = 29 ∨ o = 13 ∨ o = 31 ∨ o = 1 then 0 else j.2.2 + 1)
/-- what an instruction asks where it is put -/
def em1 (g : Nat → Nat × Nat × Nat) (J : Nat → Jt) (rc : Nat) (x : Nat × Nat × Nat) (j : Jt) : Prop :=
  (j.1 ≤ 34 ∧ j.2.1.length ≤ 10 ∧ pp x.1 ≤ j.1) ∧ (x.1 = 0 → j.1 = 0 ∧ j.2.1 = []) ∧ (x.1 ≠ 11 ∧ x.1 ≠ 12 ∧ x.1 ≠ 13) ∧
  (x.1 = 10 → x.2.1 < rc ∧ (J x.2.1).1 = j.1 ∧ (J x.2.1).2.1 = j.2.1 ∧ j.2.2 < (J x.2.1).2.2) ∧
  (x.1 = 30 → j.1 = 0) ∧ (x.1 = 31 → j.2.1 ≠ []) ∧
  (2 ≤ x.1 → j.2.2 < 90 ∧ (x.1 ≠ 13 → x.1 ≠ 31 → ∀ b tl, j.2.1 = b :: tl → b < rc ∧ ((g b).1 = 12 ∨ (g b).1 = 30) ∧ (J b).1 = 0 ∧ (J b).2.1 = tl ∧ j.2.2 < (J b).2.2)) ∧
  (x.1 ≤ 1 → j.2.2 = 90)
def gem (g : Nat → Nat × Nat × Nat) (rc : Nat) (x : Nat × Nat × Nat) : Nat → Nat × Nat × Nat := fun i => if i = rc then x else g i
def jem (J : Nat → Jt) (rc o : Nat) (j : Jt) : Nat → Jt := fun i => if i = rc then j else if i = rc + 1 then nxt rc o j else J i
theorem W_em {g : Nat → Nat × Nat × Nat} {J : Nat → Jt} {rc : Nat} (h : ∀ i, i < rc → W1 g J rc i) {x : Nat × Nat × Nat} {j : Jt} (h1 : (J rc).1 = j.1) (h2 : (J rc).2.1 = j.2.1) (h3 : (J rc).2.2 ≤ j.2.2) (hx : em1 g J rc x j) :
    ∀ i, i < rc + 1 → W1 (gem g rc x) (jem J rc x.1 j) (rc + 1) i := by
  intro i hi
  by_cases e : i = rc
  · subst e
    obtain ⟨a1, a2, a3, a4, a5, a6, a7, a8⟩ := hx
    have g0 : gem g i x i = x := if_pos rfl
    have j0 : jem J i x.1 j i = j := if_pos rfl
    have j1 : jem J i x.1 j (i + 1) = nxt i x.1 j := by unfold jem; rw [if_neg (by omega), if_pos rfl]
    have jb : ∀ b, b < i → jem J i x.1 j b = J b := fun b hb => by unfold jem; rw [if_neg (by omega), if_neg (by omega)]
    have gb : ∀ b, b < i → gem g i x b = g b := fun b hb => by unfold gem; rw [if_neg (by omega)]
    unfold W1
    rw [g0, j0, j1]
    refine ⟨a1, a2, fun q => ?_, fun q1 q2 => ?_, fun q => ?_, fun q => ?_, fun q => ?_, a8⟩
    · obtain ⟨f1, f2, f3, f4, f5⟩ := q
      refine ⟨?_, ?_, fun w => ?_⟩
      · show j.1 - pp x.1 + ps x.1 + pp x.1 = j.1 + ps x.1
        have := a1.2.2
        omega
      · show (if x.1 = 12 ∨ x.1 = 30 then i :: j.2.1 else if x.1 = 13 ∨ x.1 = 31 then j.2.1.tail else j.2.1) = _
        rw [if_neg (show ¬ (x.1 = 13 ∨ x.1 = 31) by omega)]
      · show j.2.2 < (if x.1 = 0 ∨ x.1 = 10 ∨ x.1 = 29 ∨ x.1 = 13 ∨ x.1 = 31 ∨ x.1 = 1 then 0 else j.2.2 + 1)
        rw [if_neg (by omega)]
        omega
    · have e10 : x.1 = 10 := by omega
      obtain ⟨b0, b1, b2, b3⟩ := a4 e10
      rw [jb _ b0, b1, b2, e10]
      exact ⟨by omega, rfl, rfl, b3⟩
    · exact a5 (by omega)
    · exact a6 (by omega)
    · obtain ⟨b0, b1⟩ := a7 q
      refine ⟨b0, fun o1 o2 b tl w => ?_⟩
      obtain ⟨c1, c2⟩ := b1 o1 o2 b tl w
      rw [jb b c1, gb b c1]
      exact ⟨c1, c2⟩
  · have hr : jem J rc x.1 j rc = j := if_pos rfl
    refine (h i (by omega)).mono (by omega) (by omega) (if_neg e) (fun b hb w => by unfold gem; rw [if_neg (by omega)]; exact w) (fun k hk => by unfold jem; rw [if_neg (by omega), if_neg (by omega)]) ?_ ?_ ?_
    · rw [hr]; exact h1.symm
    · rw [hr]; exact h2.symm
    · rw [hr]; exact h3
/-- a jump aimed at the next place -/
def aop (o : Nat) : Nat := if o = 28 then 11 else if o = 29 then 10 else if o = 30 then 12 else 13
def gai (g : Nat → Nat × Nat × Nat) (rc k : Nat) : Nat → Nat × Nat × Nat := fun i => if i = k then (aop (g k).1, rc, 0) else g i
def jai (J : Nat → Jt) (rc k : Nat) : Nat → Jt := fun i => if i = rc then ((J rc).1, (J rc).2.1, max (J rc).2.2 ((J k).2.2 + 1)) else J i
theorem W_aim {g : Nat → Nat × Nat × Nat} {J : Nat → Jt} {rc k : Nat} (h : ∀ i, i < rc → W1 g J rc i) (hk : k < rc) (ho : 28 ≤ (g k).1 ∧ (g k).1 ≤ 31) (h1 : (J rc).1 + pp (g k).1 = (J k).1) (h2 : (J rc).2.1 = if (g k).1 = 31 then (J k).2.1.tail else (J k).2.1) :
    ∀ i, i < rc → W1 (gai g rc k) (jai J rc k) rc i := by
  intro i hi
  have jr : jai J rc k rc = ((J rc).1, (J rc).2.1, max (J rc).2.2 ((J k).2.2 + 1)) := if_pos rfl
  have jb : ∀ b, b < rc → jai J rc k b = J b := fun b hb => by unfold jai; rw [if_neg (by omega)]
  by_cases e : i = k
  · subst e
    have gi : gai g rc i i = (aop (g i).1, rc, 0) := if_pos rfl
    have gb : ∀ b, b < i → gai g rc i b = g b := fun b hb => by unfold gai; rw [if_neg (by omega)]
    obtain ⟨a1, a2, a3, a4, a5, a6, a7, a8⟩ := h i hi
    have j1 : (jai J rc i (i + 1)).1 = (J (i + 1)).1 ∧ (jai J rc i (i + 1)).2.1 = (J (i + 1)).2.1 ∧ (J (i + 1)).2.2 ≤ (jai J rc i (i + 1)).2.2 := by
      by_cases q : i + 1 = rc
      · rw [q, jr]; exact ⟨rfl, rfl, Nat.le_max_left _ _⟩
      · rw [jb _ (by omega)]; exact ⟨rfl, rfl, Nat.le_refl _⟩
    unfold W1
    rw [gi, jb i hi, j1.1, j1.2.1]
    obtain ⟨b0, b1⟩ := a7 (by omega)
    have raise : 2 ≤ aop (g i).1 → (J i).2.2 < 90 ∧ (aop (g i).1 ≠ 13 → aop (g i).1 ≠ 31 → ∀ b tl, (J i).2.1 = b :: tl → b < i ∧ ((gai g rc i b).1 = 12 ∨ (gai g rc i b).1 = 30) ∧ (jai J rc i b).1 = 0 ∧ (jai J rc i b).2.1 = tl ∧ (J i).2.2 < (jai J rc i b).2.2) := fun _ => ⟨b0, fun o1 _ b tl w => by
      obtain ⟨c1, c2⟩ := b1 (by omega) (fun q => o1 (by rw [q]; rfl)) b tl w
      rw [jb b (by omega), gb b c1]
      exact ⟨c1, c2⟩⟩
    have hr : (J i).2.2 < (jai J rc i rc).2.2 := by rw [jr]; exact Nat.lt_of_lt_of_le (Nat.lt_succ_self _) (Nat.le_max_right _ _)
    have r1 : (jai J rc i rc).1 = (J rc).1 := by rw [jr]
    have r2 : (jai J rc i rc).2.1 = (J rc).2.1 := by rw [jr]
    rcases (show (g i).1 = 28 ∨ (g i).1 = 29 ∨ (g i).1 = 30 ∨ (g i).1 = 31 by omega) with q | q | q | q <;> rw [q] at a1 a2 a3 a4 a5 a6 a7 a8 h1 h2 raise ⊢
    · refine ⟨a1, fun w => absurd w (by simp [aop]), fun _ => ?_, fun _ _ => ?_, fun w => absurd w (by simp [aop]), fun w => absurd w (by simp [aop]), raise, fun w => absurd w (by simp [aop])⟩
      · obtain ⟨c1, c2, c3⟩ := a3 (by unfold ft; decide)
        exact ⟨c1, c2, fun _ => Nat.lt_of_lt_of_le (c3 (by decide)) j1.2.2⟩
      · show rc ≤ rc ∧ (jai J rc i rc).1 + pp 11 = (J i).1 ∧ (jai J rc i rc).2.1 = (J i).2.1 ∧ (J i).2.2 < (jai J rc i rc).2.2
        rw [r1, r2]
        exact ⟨Nat.le_refl _, h1, h2, hr⟩
    · refine ⟨a1, fun w => absurd w (by simp [aop]), fun w => absurd w (by simp [ft, aop]), fun _ _ => ?_, fun w => absurd w (by simp [aop]), fun w => absurd w (by simp [aop]), raise, fun w => absurd w (by simp [aop])⟩
      show rc ≤ rc ∧ (jai J rc i rc).1 + pp 10 = (J i).1 ∧ (jai J rc i rc).2.1 = (J i).2.1 ∧ (J i).2.2 < (jai J rc i rc).2.2
      rw [r1, r2]
      exact ⟨Nat.le_refl _, h1, h2, hr⟩
    · refine ⟨a1, fun w => absurd w (by simp [aop]), fun _ => ?_, fun _ _ => ?_, fun _ => a5 (Or.inr rfl), fun w => absurd w (by simp [aop]), raise, fun w => absurd w (by simp [aop])⟩
      · obtain ⟨c1, c2, c3⟩ := a3 (by unfold ft; decide)
        exact ⟨c1, c2, fun _ => Nat.lt_of_lt_of_le (c3 (by decide)) j1.2.2⟩
      · show rc ≤ rc ∧ (jai J rc i rc).1 + pp 12 = (J i).1 ∧ (jai J rc i rc).2.1 = (J i).2.1 ∧ (J i).2.2 < (jai J rc i rc).2.2
        rw [r1, r2]
        exact ⟨Nat.le_refl _, h1, h2, hr⟩
    · refine ⟨a1, fun w => absurd w (by simp [aop]), fun w => absurd w (by simp [ft, aop]), fun _ _ => ?_, fun w => absurd w (by simp [aop]), fun _ => a6 (Or.inr rfl), raise, fun w => absurd w (by simp [aop])⟩
      show rc ≤ rc ∧ (jai J rc i rc).1 + pp 13 = (J i).1 ∧ (jai J rc i rc).2.1 = (J i).2.1.tail ∧ (J i).2.2 < (jai J rc i rc).2.2
      rw [r1, r2]
      exact ⟨Nat.le_refl _, h1, h2, hr⟩
  · refine (h i hi).mono hi (Nat.le_refl _) (if_neg e) (fun b hb w => ?_) jb ?_ ?_ ?_
    · unfold gai
      by_cases q : b = k
      · subst q
        rw [if_pos rfl]
        exact Or.inl (by show aop (g b).1 = 12; rw [show (g b).1 = 30 by omega]; rfl)
      · rw [if_neg q]; exact w
    · rw [jr]
    · rw [jr]
    · rw [jr]; exact Nat.le_max_left _ _
