section LOOKS
variable {K : Ka} {M : Cm} {S : Ms} {bn sm nu nd nm z : Nat} {fl : Nat → List Nat}
theorem lk_loop (N : Nat) (k24 : Int32 → Int64 → Ms → Option (Int32 × Ms)) (x1 : Int32) (x2 : Int64) : ∀ (m i n : Nat) (r : Nat → Int32), i + m = 24 → m < n → ∃ r', (∀ w, r' w = if i ≤ w ∧ w < 24 then 0 else r w) ∧ lM_looks_3 N k24 n x1 x2 (nI i) (rw53 S r) = k24 x1 x2 (rw53 S r') := by
  intro m
  induction m with
  | zero =>
    intro i n r h1 h2
    obtain ⟨n, rfl⟩ : ∃ n', n = n' + 1 := ⟨n - 1, by omega⟩
    refine ⟨r, fun w => by rw [if_neg (by omega)], ?_⟩
    rw [lM_looks_3, if_pos (show (24 : Int32) ≤ nI i from nI_le (a := 24) (by omega) (by omega))]
  | succ m ih =>
    intro i n r h1 h2
    obtain ⟨n, rfl⟩ : ∃ n', n = n' + 1 := ⟨n - 1, by omega⟩
    rw [lM_looks_3, if_neg (show ¬ (24 : Int32) ≤ nI i from nI_ge (b := 24) (by omega) (by decide)), ck_n (show i < 24 by omega) (by decide), nI_clamp (by omega), rw53_p, nI_1]
    obtain ⟨r', q1, q2⟩ := ih (i + 1) n (upd r i (vp_nar .boolean 0)) (by omega) (by omega)
    refine ⟨r', fun w => ?_, q2⟩
    rw [q1]
    unfold upd
    by_cases e : w = i
    · subst e
      rw [if_neg (by omega), if_pos rfl, if_pos (by omega)]
      rfl
    · by_cases h : i + 1 ≤ w ∧ w < 24
      · rw [if_pos h, if_pos (by omega)]
      · rw [if_neg h, if_neg e, if_neg (by omega)]
theorem find_c {p q : Nat → Bool} : ∀ l : List Nat, (∀ w, w ∈ l → p w = q w) → l.find? p = l.find? q := by
  intro l
  induction l with
  | nil => intro _; rfl
  | cons y l ih =>
    intro h
    rw [List.find?_cons, List.find?_cons, h y (List.mem_cons_self ..), ih (fun w hw => h w (List.mem_cons_of_mem _ hw))]
noncomputable def hasQ (S : Ms) (bn : Nat) (x : Int64) : Nat → Bool := hasP S bn x (fun _ => 0)
theorem looks_ok (N : Nat) (hN : 30 < N) (x : Int64) (hU : ∀ u, u < nu → UR S bn fl u) (hnu : nu ≤ 24) (hb : bn < 2) (h12 : mF S 12 = nI bn) {u : Nat} (hu : u < nu) :
    (∃ w s r', (fl u).find? (hasQ S bn x) = some w ∧ hasI S bn x w s ∧ fM_looks N (nI u) x S = some (1, pF (pF (rw53 S r') 51 (nI w)) 52 (nI s))) ∨ ((fl u).find? (hasQ S bn x) = none ∧ ∃ r', fM_looks N (nI u) x S = some (0, rw53 S r')) := by
  obtain ⟨r, q1, q2⟩ := lk_loop (S := S) N (bM_looks_24 N) (nI u) x 24 0 N (mA S 53) rfl (by omega)
  rw [rw53_s] at q2
  have e : fM_looks N (nI u) x S = bM_looks_24 N (nI u) x (rw53 S r) := q2
  have r0 : ∀ w, w < 24 → r w = 0 := fun w hw => by rw [q1, if_pos (by omega)]
  have hc := fn_ok N hN (x := x) hU hnu hb h12 26 u (by omega) hu r (fun v hv hv2 => absurd (r0 v (by omega)) hv2)
  have ef : (fl u).find? (hasP S bn x r) = (fl u).find? (hasQ S bn x) := find_c _ (fun w hw => by
    have hw2 := (UR.tr hU hnu (u + 1) u (by omega) hu w hw).1
    unfold hasQ
    have e : (r w = 0 ∧ ∃ s, hasI S bn x w s) ↔ ((0 : Int32) = 0 ∧ ∃ s, hasI S bn x w s) := by rw [r0 w (by omega)]
    cases e1 : hasP S bn x r w with
    | true => exact (hasP_t.mpr (e.mp (hasP_t.mp e1))).symm
    | false => exact (hasP_f (fun q => by have := hasP_t.mpr (e.mpr q); rw [e1] at this; cases this)).symm)
  unfold FS at hc
  rw [ef] at hc
  rw [e]
  unfold bM_looks_24 fG_finds
  rcases hc with ⟨w, s, r', w1, w2, w3⟩ | ⟨w1, r', w2, w3⟩
  · rw [w3, bs]
    exact Or.inl ⟨w, s, r', w1, w2, rfl⟩
  · rw [w2, bs]
    exact Or.inr ⟨w1, r', rfl⟩
theorem cf_items (N : Nat) {x : Int64} {w tu : Nat} (hA : UA K M S bn sm w tu) {ni : Nat} (h8 : ni ≤ 8) (hi : cI M tu 8 = nI ni) (hn : ∀ s, s < ni → cL M (tu + 2) s = mL S 26 (8 * (24 * bn + w) + s)) (k74 : Nat → Nat → Int32 → Int32 → Cm → Option (Int32 × Cm)) (k92 : Nat → Int64 → Nat → Int32 → Cm → Option (Int32 × Cm)) (x0 x4 : Nat) (x5 : Int32) : ∀ (m i n : Nat), i + m = ni → m < n →
    (∃ s, i ≤ s ∧ s < ni ∧ mL S 26 (8 * (24 * bn + w) + s) = x ∧ lC_X5_find_51 N K k74 k92 n x0 x x4 x5 tu (nI i) M = k74 x0 x4 x5 (nI s) M) ∨ ((∀ s, i ≤ s → s < ni → mL S 26 (8 * (24 * bn + w) + s) ≠ x) ∧ lC_X5_find_51 N K k74 k92 n x0 x x4 x5 tu (nI i) M = k92 x0 x x4 x5 M) := by
  have r3 := hA.2.2.2.1 3 23 8 (by decide)
  have e3 : tu + 3 - 1 = tu + 2 := by omega
  rw [e3] at r3
  intro m
  induction m with
  | zero =>
    intro i n h1 h2
    obtain ⟨n, rfl⟩ : ∃ n', n = n' + 1 := ⟨n - 1, by omega⟩
    rw [lC_X5_find_51, gd_k hA.2.2.1, hi, if_pos (nI_le (by omega) (by omega))]
    exact Or.inr ⟨fun s g1 g2 => by omega, rfl⟩
  | succ m ih =>
    intro i n h1 h2
    obtain ⟨n, rfl⟩ : ∃ n', n = n' + 1 := ⟨n - 1, by omega⟩
    rw [lC_X5_find_51, gd_k hA.2.2.1, hi, if_neg (nI_ge (show i < ni by omega) (by omega)), nn_s r3.1, gd_k r3.2.1, r3.2.2, ck_n (show i < 8 by omega) (by decide), nI_clamp (by omega), hn i (by omega)]
    by_cases e : mL S 26 (8 * (24 * bn + w) + i) = x
    · rw [if_pos (lgc0.mpr e)]
      exact Or.inl ⟨i, Nat.le_refl _, by omega, e, rfl⟩
    · rw [if_neg (fun q => e (lgc0.mp q)), nI_1]
      rcases ih (i + 1) n (by omega) (by omega) with ⟨s, s1, s2⟩ | ⟨s1, s2⟩
      · exact Or.inl ⟨s, by omega, s2⟩
      · refine Or.inr ⟨fun s g1 g2 => ?_, s2⟩
        by_cases er : s = i
        · rw [er]; exact e
        · exact s1 s (by omega) g2
theorem cf_loop (N : Nat) (hN : 30 < N) {x : Int64} (ks : kd K sm = 6) (p1 : cR M sm 5 = some (sm + 6) ∧ kd K (sm + 6) = 26 ∧ nu ≤ le K (sm + 6) ∧ le K (sm + 6) ≤ 24) (hU : ∀ w, w < nu → ∃ tu, UA K M S bn sm w tu ∧ UB M S bn w tu) {su : Nat} {L : List Nat} (k22 : kd K su = 22) (hl : le K su = L.length) (h24 : L.length ≤ 24) (hc : ∀ j, j < L.length → cI M su j = nI (L.getD j 0)) (hL : ∀ v, v ∈ L → v < nu) :
    ∀ (m i n : Nat), i + m = L.length → m < n →
    (∃ w s, (L.drop i).find? (hasQ S bn x) = some w ∧ hasI S bn x w s ∧ lC_X5_find_28 N K (bC_X5_find_74 N K) (bC_X5_find_98 N K) n sm x su (nI i) M = some (nI (8 * w + s), M)) ∨ ((L.drop i).find? (hasQ S bn x) = none ∧ lC_X5_find_28 N K (bC_X5_find_74 N K) (bC_X5_find_98 N K) n sm x su (nI i) M = some (-1, M)) := by
  intro m
  induction m with
  | zero =>
    intro i n h1 h2
    obtain ⟨n, rfl⟩ : ∃ n', n = n' + 1 := ⟨n - 1, by omega⟩
    rw [lC_X5_find_28, gd_k k22, hl, if_pos (nI_le (by omega) (by omega)), List.drop_eq_nil_of_le (by omega)]
    exact Or.inr ⟨rfl, rfl⟩
  | succ m ih =>
    intro i n h1 h2
    obtain ⟨n, rfl⟩ : ∃ n', n = n' + 1 := ⟨n - 1, by omega⟩
    have hi : i < L.length := by omega
    have ed : L.drop i = L.getD i 0 :: L.drop (i + 1) := by
      rw [List.drop_eq_getElem_cons hi, List.getD_eq_getElem?_getD, List.getElem?_eq_getElem hi]
      rfl
    have hm : L.getD i 0 ∈ L := by
      rw [List.getD_eq_getElem?_getD, List.getElem?_eq_getElem hi]
      exact List.getElem_mem hi
    generalize hw : L.getD i 0 = w at *
    have hwn := hL w hm
    obtain ⟨tu, a1, ni, ns, b1, b2, b3, b4, b5, b6, b7, b8, b9, b10⟩ := hU w hwn
    have n24 : nu ≤ 24 := by omega
    rw [lC_X5_find_28, gd_k k22, hl, if_neg (nI_ge hi (by omega)), gd_k ks, ck_n hi (by omega), nn_s p1.1, gd_k p1.2.1, nI_clamp (show i < 2 ^ 31 by omega), hc i hi, hw, ck_n (show w < le K (sm + 6) by omega) (by omega), nI_clamp (show w < 2 ^ 31 by omega), nn_s a1.1, ed]
    rcases cf_items N (x := x) a1 b1 b3 (fun s hs => (b9 s hs).1) (bC_X5_find_74 N K) (bC_X5_find_92 N K (lC_X5_find_28 N K (bC_X5_find_74 N K) (bC_X5_find_98 N K) n) (bC_X5_find_74 N K) (bC_X5_find_98 N K)) sm su (nI i) ni 0 N (by omega) (by omega) with ⟨s, s1, s2, s3, s4⟩ | ⟨s1, s2⟩
    · left
      have hs : hasI S bn x w s := ⟨⟨ni, b1, b4, s2⟩, s3⟩
      refine ⟨w, s, List.find?_cons_of_pos (hasP_t.mpr ⟨rfl, s, hs⟩), hs, ?_⟩
      have s4' : lC_X5_find_51 N K (bC_X5_find_74 N K) (bC_X5_find_92 N K (lC_X5_find_28 N K (bC_X5_find_74 N K) (bC_X5_find_98 N K) n) (bC_X5_find_74 N K) (bC_X5_find_98 N K)) N sm x su (nI i) tu 0 M = _ := s4
      rw [s4']
      unfold bC_X5_find_74
      rw [gd_k k22, hl, ck_n hi (by omega), nI_clamp (show i < 2 ^ 31 by omega), hc i hi, hw, show (8 : Int32) = nI 8 from rfl, nI_mul, nI_add, Nat.mul_comm w 8]
    · have s2' : lC_X5_find_51 N K (bC_X5_find_74 N K) (bC_X5_find_92 N K (lC_X5_find_28 N K (bC_X5_find_74 N K) (bC_X5_find_98 N K) n) (bC_X5_find_74 N K) (bC_X5_find_98 N K)) N sm x su (nI i) tu 0 M = _ := s2
      rw [s2']
      unfold bC_X5_find_92
      rw [nI_1]
      have no : hasQ S bn x w = false := hasP_f (fun q => by
        obtain ⟨-, s, ⟨ni', w1, w2, w3⟩, w4⟩ := q
        have : ni = ni' := (nI_eq (by omega) (by omega)).mp (b4.symm.trans w2)
        exact s1 s (by omega) (by omega) w4)
      rw [List.find?_cons_of_neg (by rw [no]; decide)]
      exact ih (i + 1) n (by omega) (by omega)
/-- a name looked for from a unit on, by both -/
theorem fnd_ok (hn : NNw z K M S bn sm nd nu nm) (hp : PU K M S bn sm nu) (N : Nat) (hN : 30 < N) (x : Int64) {u : Nat} (hu : u < nu) :
    (∃ w s r', w < nu ∧ hasI S bn x w s ∧ fC_X5_find N K sm (nI u) x M = some (nI (8 * w + s), M) ∧ fM_looks N (nI u) x S = some (1, pF (pF (rw53 S r') 51 (nI w)) 52 (nI s))) ∨ (fC_X5_find N K sm (nI u) x M = some (-1, M) ∧ ∃ r', fM_looks N (nI u) x S = some (0, rw53 S r')) := by
  obtain ⟨n1, n2, n3, n4, n5, n6, n7, n8, n9, n10, -⟩ := hn
  obtain ⟨p1, p2, fl, p3⟩ := hp
  have hU : ∀ u, u < nu → UR S bn fl u := fun u hu => by
    obtain ⟨⟨tu, a1, ⟨ni, ns, b1, b2, b3, b4, b5, b6, b7, b8, b9⟩, a3⟩, a4⟩ := p3 u hu
    obtain ⟨-, -, -, -, -, -, -, -, -, -, c1, nr, c2, c3, c4⟩ := a1
    exact ⟨c1, ⟨nr, c2, c3, fun k hk => by obtain ⟨r, r1, r2, -⟩ := c4 k hk; exact ⟨r, r1, r2⟩⟩, ⟨ni, b1, b4, b8⟩, a4⟩
  obtain ⟨⟨tu, a1, a2, su, L, c1, c2, c3, c4, c5, c6, c7, c8⟩, a4⟩ := p3 u hu
  have cls : fC_X5_find N K sm (nI u) x M = lC_X5_find_28 N K (bC_X5_find_74 N K) (bC_X5_find_98 N K) N sm x su 0 M := by
    unfold fC_X5_find
    rw [if_neg (nI_pos (by omega)), gd_k n4, n10, if_pos (nI_lt hu (by omega)), nn_s p1.1, gd_k p1.2.1, ck_n (show u < le K (sm + 6) by omega) (by omega), nI_clamp (by omega), nn_s a1.1, gd_k a1.2.2.1, nn_s c1]
  have lk := looks_ok N hN x hU n6 (by omega) n2 hu
  have lp := cf_loop N hN (x := x) n4 p1 (fun w hw => by obtain ⟨⟨tu, q1, q2, -⟩, -⟩ := p3 w hw; exact ⟨tu, q1, q2⟩) c2 c3 c4 c6 (fun v hv => by have := c7 v hv; omega) L.length 0 N (by omega) (by omega)
  rw [List.drop_zero, c8] at lp
  rw [cls]
  have ml : ∀ w, (fl u).find? (hasQ S bn x) = some w → w < nu := fun w hw => by
    have := (UR.tr hU n6 (u + 1) u (by omega) hu w (List.mem_of_find?_eq_some hw)).1
    omega
  rcases lk with ⟨w, s, r', k1, k2, k3⟩ | ⟨k1, r', k2⟩
  · rcases lp with ⟨w', s', l1, l2, l3⟩ | ⟨l1, l2⟩
    · rw [k1] at l1
      cases l1
      have hw := ml w k1
      have es : s = s' := by
        obtain ⟨-, -, ⟨ni, i1, i2, i3⟩, -⟩ := hU w hw
        obtain ⟨⟨m1, x1, x2, x3⟩, x4⟩ := k2
        obtain ⟨⟨m2, y1, y2, y3⟩, y4⟩ := l2
        have e1 : ni = m1 := (nI_eq (by omega) (by omega)).mp (i2.symm.trans x2)
        have e2 : ni = m2 := (nI_eq (by omega) (by omega)).mp (i2.symm.trans y2)
        exact i3.2 s s' (by omega) (by omega) (x4.trans y4.symm)
      subst es
      exact Or.inl ⟨w, s, r', hw, k2, l3, k3⟩
    · rw [k1] at l1; cases l1
  · rcases lp with ⟨w', s', l1, l2, l3⟩ | ⟨l1, l2⟩
    · rw [k1] at l1; cases l1
    · exact Or.inr ⟨l2, r', k2⟩
end LOOKS
