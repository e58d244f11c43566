/-! what a start brings up: words of the class alone -/
def EB (sm cc : Nat) (M M' : Cm) (xs : List Int64) : Prop := (∀ q, q ≠ sm → cI M' q = cI M q) ∧ (∀ s, s ≠ 13 → cI M' sm s = cI M sm s) ∧ (∀ q, q ≠ sm + 10 → cL M' q = cL M q) ∧ (∀ j, j < cc → cL M' (sm + 10) j = cL M (sm + 10) j) ∧ (∀ k, k < xs.length → cL M' (sm + 10) (cc + k) = xs.getD k 0) ∧ cR M' = cR M
def w7 (x : Nat) : Int64 := wd 7 (nI x) 0
section BRING
variable {z : Nat} {K : Ka} {M M' : Cm} {N sm cc tu cu nu : Nat} {xs : List Int64} {C : List Nat} {A : Nat → Int32}
theorem EB.rf : EB sm cc M M [] := ⟨fun _ _ => rfl, fun _ _ => rfl, fun _ _ => rfl, fun _ _ => rfl, fun k hk => absurd hk (Nat.not_lt_zero _), rfl⟩
theorem EB.em (h : EB sm cc M M' xs) (x : Int64) : EB sm cc M (emC M' sm (cc + xs.length) x) (xs ++ [x]) := by
  obtain ⟨h1, h2, h3, h4, h5, h6⟩ := h
  unfold emC
  refine ⟨fun q hq => ?_, fun s hs => ?_, fun q hq => ?_, fun j hj => ?_, fun k hk => ?_, h6⟩
  · rw [cI_wI_ne _ _ _ hq]; exact h1 q hq
  · rw [cI_w, if_neg (fun y => hs y.2)]; exact h2 s hs
  · rw [cL_I, cL_wL_ne _ _ _ hq]; exact h3 q hq
  · rw [cL_I, cL_w, if_neg (by omega)]; exact h4 j hj
  · rw [cL_I, cL_w]
    have el : (xs ++ [x]).length = xs.length + 1 := by rw [List.length_append]; rfl
    by_cases y : k = xs.length
    · subst y
      rw [if_pos ⟨rfl, rfl⟩, List.getD_eq_getElem?_getD, List.getElem?_append_right (Nat.le_refl _), Nat.sub_self]
      rfl
    · rw [if_neg (by omega), List.getD_eq_getElem?_getD, List.getElem?_append_left (by omega), ← List.getD_eq_getElem?_getD]
      exact h5 k (by omega)
theorem eb_lp (k77 : Nat → Ka → Cm → Option ((Ka × Cm) ⊕ (Ka × Cm))) (k7 : kd K (z + 7) = 4) (h1 : cR M (z + 7) 1 = some sm) (ks : kd K sm = 6) (kt : kd K tu = 8) (hts : tu ≠ sm) (hm : ¬ cI M tu 0 = 0) (h11 : cR M tu 11 = some cu) (kc : kd K cu = 22) (lc : le K cu = C.length) (hcs : cu ≠ sm) (c24 : C.length ≤ 24) (hC : HL M cu C) (h5 : cR M sm 5 = some (sm + 6) ∧ kd K (sm + 6) = 26 ∧ le K (sm + 6) ≤ 24)
    (hA : ∀ x, x ∈ C → ∃ tx, cR M (sm + 6) x = some tx ∧ kd K tx = 8 ∧ tx ≠ sm ∧ x < le K (sm + 6) ∧ cI M tx 1 = A x) :
    ∀ (n i : Nat) (M' : Cm) (xs : List Int64), i ≤ C.length → C.length < n + i → EB sm cc M M' xs → CR z K M' sm (cc + xs.length) → cc + xs.length + (C.length - i) ≤ le K (sm + 10) →
    ∃ M'', lT_X3_emitBringing_21 N k77 n (z + 7) tu (nI i) K M' = k77 (z + 7) K M'' ∧ EB sm cc M M'' (xs ++ ((C.drop i).filter (fun x => decide (A x ≠ 0))).map w7) ∧ CR z K M'' sm (cc + (xs ++ ((C.drop i).filter (fun x => decide (A x ≠ 0))).map w7).length) := by
  intro n
  induction n with
  | zero => intro i M' xs q1 q2; omega
  | succ n ih =>
    intro i M' xs q1 q2 e c hroom
    obtain ⟨e1, e2, e3, e4, e5, e6⟩ := id e
    have m0 : ¬ cI M' tu 0 = 0 := by rw [e1 tu hts]; exact hm
    have m11 : cR M' tu 11 = some cu := by rw [e6]; exact h11
    have m1 : cR M' (z + 7) 1 = some sm := by rw [e6]; exact h1
    have m5 : cR M' sm 5 = some (sm + 6) := by rw [e6]; exact h5.1
    rw [lT_X3_emitBringing_21, gd_k kt, if_neg m0, nn_s m11, gd_k kc, lc]
    by_cases h : i < C.length
    · obtain ⟨tx, t1, t2, t3, t4, t5⟩ := hA _ (getD_mem h)
      have mi : cI M' cu i = nI (C.getD i 0) := by rw [e1 cu hcs]; exact hC i h
      have mx : cR M' (sm + 6) (C.getD i 0) = some tx := by rw [e6]; exact t1
      have ma : cI M' tx 1 = A (C.getD i 0) := by rw [e1 tx t3]; exact t5
      rw [if_neg (nI_ge h (by omega)), gd_k k7, nn_s m1, gd_k ks, nn_s m11, gd_k kc, lc, ck_n h (by omega), nn_s m5, gd_k h5.2.1, nI_clamp (show i < 2 ^ 31 by omega), mi, ck_n t4 (by omega), nI_clamp (show C.getD i 0 < 2 ^ 31 by omega), nn_s mx, gd_k t2, ma, getD_drop h]
      by_cases y : A (C.getD i 0) = 0
      · rw [if_pos y, List.filter_cons_of_neg (p := fun x => decide (A x ≠ 0)) (fun w => (of_decide_eq_true w) y)]
        unfold bT_X3_emitBringing_71
        rw [nI_1]
        exact ih (i + 1) M' xs (by omega) (by omega) e c (by omega)
      · rw [if_neg y, nn_s m11, gd_k kc, lc, ck_n h (by omega), mi, em3 c (by omega) N, ta_l, List.filter_cons_of_pos (p := fun x => decide (A x ≠ 0)) (decide_eq_true y), List.map_cons]
        unfold bT_X3_emitBringing_70 bT_X3_emitBringing_71
        dsimp only
        rw [nI_1]
        have el : (xs ++ [w7 (C.getD i 0)]).length = xs.length + 1 := by rw [List.length_append]; rfl
        have c' : CR z K (emC M' sm (cc + xs.length) (wd 7 (nI (C.getD i 0)) 0)) sm (cc + (xs ++ [w7 (C.getD i 0)]).length) := by rw [el]; exact c.em (by omega) _
        obtain ⟨M2, b1, b2, b3⟩ := ih (i + 1) _ (xs ++ [w7 (C.getD i 0)]) (by omega) (by omega) (e.em (w7 (C.getD i 0))) c' (by rw [el]; omega)
        rw [List.append_assoc] at b2 b3
        exact ⟨M2, b1, b2, b3⟩
    · have ei : i = C.length := by omega
      subst ei
      rw [if_pos (nI_le (Nat.le_refl _) (by omega)), List.drop_length]
      refine ⟨M', rfl, ?_, ?_⟩
      · rw [List.filter_nil, List.map_nil, List.append_nil]; exact e
      · rw [List.filter_nil, List.map_nil, List.append_nil]; exact c
theorem eb_ok (k7 : kd K (z + 7) = 4) (h1 : cR M (z + 7) 1 = some sm) (ks : kd K sm = 6) (kt : kd K tu = 8) (hts : tu ≠ sm) (hm : cI M tu 0 = 0 → cI M tu 6 = -1) (hb : cI M tu 6 = -1 ∨ ∃ v, v < nu ∧ cI M tu 6 = nI v) (hnu : nu ≤ 24) (h11 : cR M tu 11 = some cu) (kc : kd K cu = 22) (lc : le K cu = C.length) (hcs : cu ≠ sm) (c24 : C.length ≤ 24) (hC : HL M cu C) (h5 : cR M sm 5 = some (sm + 6) ∧ kd K (sm + 6) = 26 ∧ le K (sm + 6) ≤ 24) (hN : 30 < N)
    (hA : ¬ cI M tu 0 = 0 → ∀ x, x ∈ C → ∃ tx, cR M (sm + 6) x = some tx ∧ kd K tx = 8 ∧ tx ≠ sm ∧ x < le K (sm + 6) ∧ cI M tx 1 = A x) (c : CR z K M sm cc) (hroom : cc + 1 + (if cI M tu 0 = 0 then 0 else C.length) < le K (sm + 10)) :
    ∃ M', fT_X3_emitBringing N (z + 7) tu K M = some (.inl (K, M')) ∧
      EB sm cc M M' (((if cI M tu 0 = 0 then [] else (if cI M tu 6 < 0 then [] else [(cI M tu 6).toNatClampNeg]) ++ C.filter (fun x => decide (A x ≠ 0))).map w7) ++ [wd 8 0 0]) ∧
      CR z K M' sm (cc + (if cI M tu 0 = 0 then [] else (if cI M tu 6 < 0 then [] else [(cI M tu 6).toNatClampNeg]) ++ C.filter (fun x => decide (A x ≠ 0))).length + 1) := by
  have fin : ∀ (M' : Cm) (ys : List Nat), EB sm cc M M' (ys.map w7) → CR z K M' sm (cc + (ys.map w7).length) → cc + ys.length < le K (sm + 10) → ∃ M'', bT_X3_emitBringing_77 N (z + 7) K M' = some (.inl (K, M'')) ∧ EB sm cc M M'' (ys.map w7 ++ [wd 8 0 0]) ∧ CR z K M'' sm (cc + ys.length + 1) := fun M' ys q1 q2 q3 => by
    rw [List.length_map] at q2
    have q4 := q1.em (wd 8 0 0)
    rw [List.length_map] at q4
    refine ⟨_, ?_, q4, q2.em q3 _⟩
    unfold bT_X3_emitBringing_77 bT_X3_emitBringing_85
    rw [gd_k k7, em3 q2 q3 N, ta_l]
  by_cases m : cI M tu 0 = 0
  · simp only [m, if_true] at hroom ⊢
    have c' : CR z K M sm (cc + (([] : List Nat).map w7).length) := c
    obtain ⟨M', f1, f2, f3⟩ := fin M [] EB.rf c' (by show cc + 0 < _; omega)
    refine ⟨M', ?_, f2, f3⟩
    obtain ⟨N', rfl⟩ : ∃ k, N = k + 1 := ⟨N - 1, by omega⟩
    unfold fT_X3_emitBringing bT_X3_emitBringing_19
    rw [gd_k kt, hm m, if_pos (by decide), lT_X3_emitBringing_21, gd_k kt, if_pos m]
    exact f1
  · simp only [m, if_false] at hroom ⊢
    have go : ∀ (M1 : Cm) (ys : List Nat), ys.length ≤ 1 → EB sm cc M M1 (ys.map w7) → CR z K M1 sm (cc + (ys.map w7).length) → ∃ M', bT_X3_emitBringing_19 N (z + 7) tu K M1 = some (.inl (K, M')) ∧ EB sm cc M M' ((ys ++ C.filter (fun x => decide (A x ≠ 0))).map w7 ++ [wd 8 0 0]) ∧ CR z K M' sm (cc + (ys ++ C.filter (fun x => decide (A x ≠ 0))).length + 1) := fun M1 ys y1 y2 y3 => by
      have el : (ys.map w7).length = ys.length := List.length_map _
      obtain ⟨M2, b1, b2, b3⟩ := eb_lp (N := N) (bT_X3_emitBringing_77 N) k7 h1 ks kt hts m h11 kc lc hcs c24 hC h5 (hA m) N 0 M1 (ys.map w7) (by omega) (by omega) y2 y3 (by omega)
      rw [List.drop_zero, ← List.map_append] at b2 b3
      have fl := List.length_filter_le (fun x => decide (A x ≠ 0)) C
      obtain ⟨M', f1, f2, f3⟩ := fin M2 _ b2 b3 (by rw [List.length_append]; omega)
      exact ⟨M', b1.trans f1, f2, f3⟩
    unfold fT_X3_emitBringing
    rw [gd_k kt]
    rcases hb with q | ⟨v, v1, v2⟩
    · rw [q, if_pos (by decide), if_pos (by decide)]
      obtain ⟨M', g1, g2, g3⟩ := go M [] (by decide) EB.rf c
      exact ⟨M', g1, g2, g3⟩
    · rw [v2, if_neg (nI_pos (by omega)), if_neg (nI_pos (by omega)), gd_k k7, em3 c (by omega) N, ta_l, nI_clamp (by omega)]
      unfold bT_X3_emitBringing_18
      dsimp only
      exact go _ [v] (Nat.le_refl _) (EB.rf.em (w7 v)) (c.em (by omega) _)
end BRING
