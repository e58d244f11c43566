/-! lists put together without what is there -/
def amL (L X : List Nat) : List Nat := X.foldl (fun L x => if x ∈ L then L else L ++ [x]) L
theorem amL_cons (L X : List Nat) (x : Nat) : amL L (x :: X) = amL (if x ∈ L then L else L ++ [x]) X := rfl
theorem amL_find (p : Nat → Bool) : ∀ (X L : List Nat), (amL L X).find? p = (L ++ X).find? p := by
  intro X
  induction X with
  | nil => intro L; rw [List.append_nil]; rfl
  | cons x X ih =>
    intro L
    rw [amL_cons, ih]
    by_cases h : x ∈ L
    · rw [if_pos h, List.find?_append, List.find?_append]
      cases e : L.find? p with
      | some v => rfl
      | none =>
        have := List.find?_eq_none.mp e x h
        rw [List.find?_cons_of_neg this]
    · rw [if_neg h, List.append_assoc]; rfl
theorem amL_mem (v : Nat) : ∀ (X L : List Nat), v ∈ amL L X ↔ v ∈ L ∨ v ∈ X := by
  intro X
  induction X with
  | nil => intro L; simp [amL]
  | cons x X ih =>
    intro L
    rw [amL_cons, ih]
    by_cases h : x ∈ L
    · rw [if_pos h, List.mem_cons]
      constructor
      · rintro (q | q)
        · exact Or.inl q
        · exact Or.inr (Or.inr q)
      · rintro (q | q | q)
        · exact Or.inl q
        · exact Or.inl (q ▸ h)
        · exact Or.inr q
    · rw [if_neg h, List.mem_append, List.mem_singleton, List.mem_cons]
      exact or_assoc
theorem amL_nd : ∀ (X L : List Nat), L.Nodup → (amL L X).Nodup := by
  intro X
  induction X with
  | nil => intro L h; exact h
  | cons x X ih =>
    intro L hL
    rw [amL_cons]
    refine ih _ ?_
    by_cases h : x ∈ L
    · rw [if_pos h]; exact hL
    · rw [if_neg h]
      exact List.pairwise_append.mpr ⟨hL, List.pairwise_singleton _ _, fun a ha b hb => by rw [List.mem_singleton] at hb; subst hb; exact fun e => h (e ▸ ha)⟩
theorem amL_flt : ∀ (X L : List Nat), X.Nodup → amL L X = L ++ X.filter (fun x => !L.contains x) := by
  intro X
  induction X with
  | nil => intro L _; exact (List.append_nil L).symm
  | cons x X ih =>
    intro L hX
    obtain ⟨h1, h2⟩ := List.nodup_cons.mp hX
    rw [amL_cons, ih _ h2]
    by_cases h : x ∈ L
    · rw [if_pos h, List.filter_cons_of_neg (by simp [h])]
    · rw [if_neg h, List.filter_cons_of_pos (by simp [h]), List.append_assoc]
      have : X.filter (fun y => !(L ++ [x]).contains y) = X.filter (fun y => !L.contains y) := by
        apply List.filter_congr
        intro y hy
        have : y ≠ x := fun e => h1 (e ▸ hy)
        simp [this]
      rw [this]
      rfl
theorem amL_len : ∀ (X L : List Nat), L.length ≤ (amL L X).length := by
  intro X
  induction X with
  | nil => intro L; exact Nat.le_refl _
  | cons x X ih =>
    intro L
    rw [amL_cons]
    refine Nat.le_trans ?_ (ih _)
    by_cases h : x ∈ L
    · rw [if_pos h]; exact Nat.le_refl _
    · rw [if_neg h, List.length_append]; omega
theorem nd_len : ∀ (n : Nat) (L : List Nat), L.Nodup → (∀ v, v ∈ L → v < n) → L.length ≤ n := by
  intro n
  induction n with
  | zero =>
    intro L _ h
    cases L with
    | nil => exact Nat.le_refl _
    | cons x X => exact absurd (h x (List.mem_cons_self ..)) (Nat.not_lt_zero _)
  | succ n ih =>
    intro L hL h
    by_cases hn : n ∈ L
    · have e1 := List.length_erase_of_mem hn
      have e2 := ih (L.erase n) (hL.erase n) (fun v hv => by
        have q := hL.mem_erase_iff.mp hv
        have := h v q.2
        have := q.1
        omega)
      omega
    · have := ih L hL (fun v hv => by
        have := h v hv
        have : v ≠ n := fun e => hn (e ▸ hv)
        omega)
      omega
theorem getD_drop {L : List Nat} {j : Nat} (h : j < L.length) : L.drop j = L.getD j 0 :: L.drop (j + 1) := by
  rw [List.drop_eq_getElem_cons h, List.getD_eq_getElem?_getD, List.getElem?_eq_getElem h]
  rfl
theorem getD_mem {L : List Nat} {j : Nat} (h : j < L.length) : L.getD j 0 ∈ L := by
  rw [List.getD_eq_getElem?_getD, List.getElem?_eq_getElem h]
  exact List.getElem_mem h
theorem getD_app1 {L X : List Nat} {j : Nat} (h : j < L.length) : (L ++ X).getD j 0 = L.getD j 0 := by
  rw [List.getD_eq_getElem?_getD, List.getD_eq_getElem?_getD, List.getElem?_append_left h]
theorem getD_app2 {L : List Nat} {x : Nat} : (L ++ [x]).getD L.length 0 = x := by
  rw [List.getD_eq_getElem?_getD, List.getElem?_append_right (Nat.le_refl _), Nat.sub_self]
  rfl
/-- a row holds a list -/
def HL (M : Cm) (a : Nat) (L : List Nat) : Prop := ∀ j, j < L.length → cI M a j = nI (L.getD j 0)
section AM
variable {K : Ka} {N x0 x1 : Nat} {X : List Nat}
/-- contains: is a number in the first of a row -/
theorem ct_lp (hk1 : kd K x1 = 22) (hl1 : le K x1 < 2 ^ 31) {M : Cm} {L : List Nat} {v : Nat} (hL : HL M x1 L) (hLl : L.length ≤ le K x1) (hv : ∀ v, v ∈ L → v < 2 ^ 31) (xv : v < 2 ^ 31) (k20 k28 : Cm → Option (Int32 × Cm)) :
    ∀ (n j : Nat), j ≤ L.length → L.length < n + j → lC_X5_contains_2 N K k20 k28 n x1 (nI L.length) (nI v) (nI j) M = if v ∈ L.drop j then k20 M else k28 M := by
  intro n
  induction n with
  | zero => intro j h1 h2; omega
  | succ n ih =>
    intro j h1 h2
    rw [lC_X5_contains_2]
    by_cases h : j < L.length
    · rw [if_neg (nI_ge h (by omega)), gd_k hk1, if_neg (nI_ge (show j < le K x1 by omega) hl1), ck_n (show j < le K x1 by omega) hl1, nI_clamp (show j < 2 ^ 31 by omega), hL j h, getD_drop h]
      by_cases e : L.getD j 0 = v
      · rw [if_pos (by rw [e]), if_pos (by rw [e]; exact List.mem_cons_self ..)]
      · have ne : ¬ nI (L.getD j 0) = nI v := fun q => e ((nI_eq (hv _ (getD_mem h)) xv).mp q)
        rw [if_neg ne, nI_1, ih (j + 1) (by omega) (by omega)]
        have : v ∈ L.getD j 0 :: L.drop (j + 1) ↔ v ∈ L.drop (j + 1) := by
          rw [List.mem_cons]
          exact ⟨fun w => w.elim (fun y => absurd y.symm e) id, Or.inr⟩
        by_cases y : v ∈ L.drop (j + 1)
        · rw [if_pos y, if_pos (this.mpr y)]
        · rw [if_neg y, if_neg (fun q => y (this.mp q))]
    · have ej : j = L.length := by omega
      subst ej
      rw [if_pos (nI_le (Nat.le_refl _) (by omega)), List.drop_length, if_neg (by simp)]
theorem ct_ok (hk1 : kd K x1 = 22) (hl1 : le K x1 < 2 ^ 31) {M : Cm} {L : List Nat} {v : Nat} (hL : HL M x1 L) (hLl : L.length ≤ le K x1) (hv : ∀ v, v ∈ L → v < 2 ^ 31) (xv : v < 2 ^ 31) (hN : le K x1 < N) : fC_X5_contains N K x1 (nI L.length) (nI v) M = some (if v ∈ L then 1 else 0, M) := by
  have q : fC_X5_contains N K x1 (nI L.length) (nI v) M = _ := ct_lp (N := N) hk1 hl1 hL hLl hv xv (bC_X5_contains_20 N K) (bC_X5_contains_28 N K) N 0 (by omega) (by omega)
  rw [q, List.drop_zero]
  by_cases h : v ∈ L
  · rw [if_pos h, if_pos h, bC_X5_contains_20, gd_t (show is01 1 = true from rfl)]
  · rw [if_neg h, if_neg h, bC_X5_contains_28, gd_t (show is01 0 = true from rfl)]
theorem am_lp (hk0 : kd K x0 = 22) (hl0 : le K x0 = X.length) (hX8 : X.length ≤ 24) (hk1 : kd K x1 = 22) (hl1 : le K x1 < 2 ^ 31) (hne : x0 ≠ x1) (hXv : ∀ v, v ∈ X → v < 2 ^ 31) (h24 : le K x1 < N) :
    ∀ (n i : Nat) (L : List Nat) (M : Cm), i ≤ X.length → X.length < n + i → HL M x0 X → HL M x1 L → (∀ v, v ∈ L → v < 2 ^ 31) → (amL L (X.drop i)).length ≤ le K x1 →
    ∃ M', lC_X5_addMissing_5 N K (bC_X5_addMissing_46 N K) n x0 x1 (nI L.length) (nI i) M = some (nI (amL L (X.drop i)).length, M') ∧ (∀ q, q ≠ x1 → cI M' q = cI M q) ∧ cL M' = cL M ∧ cR M' = cR M ∧ HL M' x1 (amL L (X.drop i)) := by
  intro n
  induction n with
  | zero => intro i L M h1 h2; omega
  | succ n ih =>
    intro i L M h1 h2 hX hL hv hlen
    rw [lC_X5_addMissing_5, gd_k hk0, hl0]
    have hLl : L.length ≤ le K x1 := Nat.le_trans (amL_len _ _) hlen
    by_cases h : i < X.length
    · have ed := getD_drop h
      have xm := getD_mem h
      have i31 : i < 2 ^ 31 := by omega
      rw [if_neg (nI_ge h (by omega)), gd_k hk1]
      rw [ed, amL_cons] at hlen ⊢
      by_cases m : X.getD i 0 ∈ L
      · rw [if_pos m] at hlen ⊢
        by_cases f : L.length < le K x1
        · rw [if_neg (nI_ge f hl1), ck_n h (by omega), nI_clamp i31, hX i h, ct_ok hk1 hl1 hL hLl hv (hXv _ xm) h24, if_pos m]
          rw [Option.bind_some, if_neg (show ¬ ((1 : Int32), M).1 = 0 from (by decide : ¬ (1 : Int32) = 0))]
          unfold bC_X5_addMissing_40
          rw [nI_1]
          exact ih (i + 1) L M (by omega) (by omega) hX hL hv hlen
        · rw [if_pos (nI_le (by omega) (by omega))]
          unfold bC_X5_addMissing_40
          rw [nI_1]
          exact ih (i + 1) L M (by omega) (by omega) hX hL hv hlen
      · rw [if_neg m] at hlen ⊢
        have l1 : L.length < le K x1 := by
          have := amL_len (X.drop (i + 1)) (L ++ [X.getD i 0])
          rw [List.length_append] at this
          have e1 : [X.getD i 0].length = 1 := rfl
          omega
        rw [if_neg (nI_ge l1 hl1), ck_n h (by omega), nI_clamp i31, hX i h, ct_ok hk1 hl1 hL hLl hv (hXv _ xm) h24, if_neg m]
        rw [Option.bind_some, if_pos (show ((0 : Int32), M).1 = 0 from rfl), ck_n h (by omega), ck_n l1 hl1, nI_clamp (show L.length < 2 ^ 31 by omega)]
        unfold bC_X5_addMissing_40
        rw [nI_1, nI_1, hX i h]
        have hX' : HL (wI M x1 L.length (nI (X.getD i 0))) x0 X := fun j hj => by rw [cI_wI_ne _ _ _ hne]; exact hX j hj
        have hL' : HL (wI M x1 L.length (nI (X.getD i 0))) x1 (L ++ [X.getD i 0]) := fun j hj => by
          rw [cI_w]
          by_cases q : j = L.length
          · subst q
            rw [if_pos ⟨rfl, rfl⟩, getD_app2]
          · rw [List.length_append] at hj
            have e1 : [X.getD i 0].length = 1 := rfl
            rw [if_neg (fun y => q y.2), getD_app1 (by omega)]
            exact hL j (by omega)
        have hv' : ∀ v, v ∈ L ++ [X.getD i 0] → v < 2 ^ 31 := fun v w => by
          rcases List.mem_append.mp w with y | y
          · exact hv v y
          · rw [List.mem_singleton] at y; rw [y]; exact hXv _ xm
        have el : (L ++ [X.getD i 0]).length = L.length + 1 := by rw [List.length_append]; rfl
        obtain ⟨M', r1, r2, r3, r4, r5⟩ := ih (i + 1) (L ++ [X.getD i 0]) _ (by omega) (by omega) hX' hL' hv' hlen
        rw [el] at r1
        exact ⟨M', r1, fun q hq => (r2 q hq).trans (cI_wI_ne _ _ _ hq), r3, r4, r5⟩
    · have ei : i = X.length := by omega
      subst ei
      rw [if_pos (nI_le (Nat.le_refl _) (by omega)), List.drop_length]
      exact ⟨M, rfl, fun _ _ => rfl, rfl, rfl, hL⟩
theorem am_ok (hk0 : kd K x0 = 22) (hl0 : le K x0 = X.length) (hX8 : X.length ≤ 24) (hk1 : kd K x1 = 22) (hl1 : le K x1 ≤ 24) (hne : x0 ≠ x1) (hXv : ∀ v, v ∈ X → v < 2 ^ 31) (hN : 30 < N) {L : List Nat} {M : Cm} (hX : HL M x0 X) (hL : HL M x1 L) (hv : ∀ v, v ∈ L → v < 2 ^ 31) (hlen : (amL L X).length ≤ le K x1) :
    ∃ M', fC_X5_addMissing N K x0 x1 (nI L.length) M = some (nI (amL L X).length, M') ∧ (∀ q, q ≠ x1 → cI M' q = cI M q) ∧ cL M' = cL M ∧ cR M' = cR M ∧ HL M' x1 (amL L X) := by
  have := am_lp (N := N) hk0 hl0 hX8 hk1 (by omega) hne hXv (by omega) N 0 L M (by omega) (by omega) hX hL hv (by rw [List.drop_zero]; exact hlen)
  rw [List.drop_zero] at this
  exact this
end AM
