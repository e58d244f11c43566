/-! settings and statics -/
/-- what the reading of a unit's body may change -/
def FI (z b sm tu : Nat) (K0 : Ka) (M M' : Cm) (S S' : Ms) : Prop :=
  (∀ q, q ≠ z + 7 → q ≠ sm → q ≠ sm + 7 → q ≠ tu → q ≠ tu + 3 → q ≠ tu + 4 → cI M' q = cI M q) ∧ (∀ s, s ≠ 8 → s ≠ 9 → cI M' tu s = cI M tu s) ∧ (∀ q, q ≠ sm + 10 → q ≠ tu + 2 → cL M' q = cL M q) ∧ cR M' = cR M ∧ (∀ s, s ≠ 2 → s ≠ 3 → cI M' (z + 7) s = cI M (z + 7) s) ∧ (∀ s, s ≠ 13 → cI M' sm s = cI M sm s) ∧
  (∀ k, k ≠ 7 → k ≠ 38 → k ≠ 48 → k ≠ 50 → k ≠ 51 → k ≠ 52 → mF S' k = mF S k) ∧ (∀ k, k ≠ 34 → ¬ (25 ≤ k ∧ k ≤ 31) → ¬ (39 ≤ k ∧ k ≤ 47) → k ≠ 53 → mA S' k = mA S k) ∧ (∀ k, k ≠ 26 → mL S' k = mL S k) ∧ AgA z K0 M M' ∧ AgO b S S'
section ITEMS
variable {N z b bn sm size t nd nu nm iu u tu : Nat} {ex : Nat → Nat → Prop} {K0 K : Ka} {M M' M'' : Cm} {S S' S'' : Ms} {mk mk' : List Mk} {j : Jt} {rc cc a v rv dp : Nat}
theorem FR.fi (hf : FR z b sm K0 M M' S S') (h1 : tu ≠ z + 7) (h2 : sm + 11 ≤ tu) : FI z b sm tu K0 M M' S S' :=
  ⟨fun q a1 a2 a3 _ _ _ => hf.1 q a1 a2 a3, fun s _ _ => by rw [hf.1 tu h1 (by omega) (by omega)], fun q a1 _ => hf.2.1 q a1, hf.2.2.1, hf.2.2.2.1, hf.2.2.2.2.1, hf.2.2.2.2.2.1, fun k a1 _ a2 a3 => hf.2.2.2.2.2.2.1 k a1 a2 a3, fun k _ => by rw [hf.2.2.2.2.2.2.2.1], hf.2.2.2.2.2.2.2.2.1, hf.2.2.2.2.2.2.2.2.2⟩
theorem FI.tr (h : FI z b sm tu K0 M M' S S') (q : FI z b sm tu K0 M' M'' S' S'') : FI z b sm tu K0 M M'' S S'' :=
  ⟨fun x a1 a2 a3 a4 a5 a6 => (q.1 x a1 a2 a3 a4 a5 a6).trans (h.1 x a1 a2 a3 a4 a5 a6), fun s a1 a2 => (q.2.1 s a1 a2).trans (h.2.1 s a1 a2), fun x a1 a2 => (q.2.2.1 x a1 a2).trans (h.2.2.1 x a1 a2), q.2.2.2.1.trans h.2.2.2.1, fun s a1 a2 => (q.2.2.2.2.1 s a1 a2).trans (h.2.2.2.2.1 s a1 a2), fun s a1 => (q.2.2.2.2.2.1 s a1).trans (h.2.2.2.2.2.1 s a1), fun k a1 a2 a3 a4 a5 a6 => (q.2.2.2.2.2.2.1 k a1 a2 a3 a4 a5 a6).trans (h.2.2.2.2.2.2.1 k a1 a2 a3 a4 a5 a6), fun k a1 a2 a3 a4 => (q.2.2.2.2.2.2.2.1 k a1 a2 a3 a4).trans (h.2.2.2.2.2.2.2.1 k a1 a2 a3 a4), fun k a1 => (q.2.2.2.2.2.2.2.2.1 k a1).trans (h.2.2.2.2.2.2.2.2.1 k a1), h.2.2.2.2.2.2.2.2.2.1.tr q.2.2.2.2.2.2.2.2.2.1, h.2.2.2.2.2.2.2.2.2.2.tr q.2.2.2.2.2.2.2.2.2.2⟩
/-- the instructions stand where one slot more is told -/
theorem CD.slot {ni a' : Nat} (h : CD bn sm nd nu M S mk j rc cc a rv) (hL : cL M' (sm + 10) = cL M (sm + 10)) (hn : ni < 8) (h25 : mA S 25 (24 * bn + u) = nI ni) (h25' : ∀ i, mA S' 25 i = if i = 24 * bn + u then nI (ni + 1) else mA S 25 i) (hs : ∀ k, k = 27 ∨ k = 28 ∨ k = 29 → ∀ i, i ≠ 8 * (24 * bn + u) + ni → mA S' k i = mA S k i) (hA : ∀ k, k = 4 ∨ 39 ≤ k ∧ k ≤ 47 → mA S' k = mA S k) (h48 : mF S' 48 = mF S 48) (ha : a ≤ a') : CD bn sm nd nu M' S' mk j rc cc a' rv := by
  obtain ⟨pw, g, pi, J, c1, c2, c3, c4, c5, c6, nl, e, l1, l2, l3, l4⟩ := h
  have ne : ∀ p q k, SLs S bn p q k → sl8 bn p q ≠ 8 * (24 * bn + u) + ni := fun p q k hq y => by
    obtain ⟨⟨n', x1, x2, x3⟩, -⟩ := hq
    unfold sl8 at y
    have ep : p = u := by omega
    subst ep
    have : n' = ni := (nI_eq (by omega) (by omega)).mp (x2.symm.trans h25)
    omega
  have sl : ∀ p q k, SLs S bn p q k → SLs S' bn p q k := fun p q k hq => by
    have hne := ne p q k hq
    obtain ⟨⟨n', x1, x2, x3⟩, x4⟩ := hq
    refine ⟨?_, by rw [hs 27 (Or.inl rfl) _ hne]; exact x4⟩
    by_cases y : 24 * bn + p = 24 * bn + u
    · have : n' = ni := by
        have ep : p = u := by omega
        subst ep
        exact (nI_eq (by omega) (by omega)).mp (x2.symm.trans h25)
      exact ⟨ni + 1, by omega, by rw [h25', if_pos y], by omega⟩
    · exact ⟨n', x1, by rw [h25', if_neg y]; exact x2, x3⟩
  have cwe : ∀ x, VO bn S nd nu x → cwd bn S' pi x = cwd bn S pi x := fun x hx => by
    obtain ⟨v1, v2, v3, -⟩ := hx
    unfold cwd
    by_cases e3 : x.1 = 3
    · have := (v2 e3).2
      rw [hs 28 (Or.inr (Or.inl rfl)) _ (ne _ _ _ this), if_neg (show ¬ x.1 = 0 by omega), if_neg (show ¬ x.1 = 1 by omega), if_neg (show ¬ x.1 = 2 by omega), if_pos e3, if_neg (show ¬ x.1 = 0 by omega), if_neg (show ¬ x.1 = 1 by omega), if_neg (show ¬ x.1 = 2 by omega), if_pos e3]
    · by_cases e4 : x.1 = 4 ∨ x.1 = 5
      · have := (v3 e4).2
        rw [hs 29 (Or.inr (Or.inr rfl)) _ (ne _ _ _ this), if_neg e3, if_neg e3]
      · simp only [if_neg e3, if_neg (show ¬ x.1 = 4 by omega), if_neg (show ¬ x.1 = 5 by omega)]
  refine ⟨pw, g, pi, J, ?_, c2, c3, fun m hm => by have := c4 m hm; unfold MC at this ⊢; rw [hL]; exact this, c5, fun i hi => ?_, nl, e, by rw [h48]; exact l1, fun k hk => ?_, l3, l4⟩
  · unfold CG at c1 ⊢
    rw [hL, hA 39 (by omega), hA 40 (by omega), hA 41 (by omega)]
    refine ⟨c1.1, fun i hi => ?_, c1.2.2⟩
    rw [cwe _ (c6 i hi)]
    exact c1.2.1 i hi
  · obtain ⟨v1, v2, v3, v4⟩ := c6 i hi
    exact ⟨v1, fun y => ⟨(v2 y).1, sl _ _ _ (v2 y).2⟩, fun y => ⟨(v3 y).1, sl _ _ _ (v3 y).2⟩, by rw [hA 4 (Or.inl rfl)]; exact v4⟩
  · have := l2 k hk
    unfold LTe R5 at this ⊢
    rw [hA 43 (by omega), hA 44 (by omega), hA 45 (by omega), hA 46 (by omega), hA 47 (by omega)]
    obtain ⟨w1, w2, w3⟩ := this
    exact ⟨w1, by omega, w3⟩
/-- the units stand where one of them has a slot more -/
theorem PU.slot {s0 : Nat} (h : PU K M S bn sm nu) (hu : u < nu) (ht : cR M (sm + 6) u = some tu) (hs0 : s0 / 8 = 24 * bn + u) (hub : UB M' S' bn u tu) (hI : ∀ q, sm + 11 ≤ q → q ≠ tu → q ≠ tu + 3 → q ≠ tu + 4 → cI M' q = cI M q) (hIt : ∀ s, s ≠ 8 → s ≠ 9 → cI M' tu s = cI M tu s) (hL : ∀ q, sm + 11 ≤ q → q ≠ tu + 2 → cL M' q = cL M q) (hR : cR M' = cR M) (hA : ∀ k, 20 ≤ k → k ≤ 24 → mA S' k = mA S k) (hB : ∀ k, k = 25 ∨ k = 30 ∨ k = 31 → ∀ i, i ≠ 24 * bn + u → mA S' k i = mA S k i) (hC : ∀ k, k = 27 ∨ k = 28 ∨ k = 29 → ∀ i, i ≠ s0 → mA S' k i = mA S k i) (hD : ∀ i, i ≠ s0 → mL S' 26 i = mL S 26 i) : PU K M' S' bn sm nu := by
  obtain ⟨p1, p2, fl, p3⟩ := h
  have sep := p2.2.2.2.2
  refine ⟨by rw [hR]; exact p1, by unfold SEP; rw [hR]; exact p2, fl, fun w hw => ?_⟩
  obtain ⟨⟨tw', a1, a2, a3⟩, a4⟩ := p3 w hw
  have htw := a1.2.1
  have r20 := hA 20 (by decide) (by decide)
  have r21 := hA 21 (by decide) (by decide)
  have r22 := hA 22 (by decide) (by decide)
  have r23 := hA 23 (by decide) (by decide)
  have r24 := hA 24 (by decide) (by decide)
  have eq : w = u → tw' = tu := fun y => by subst y; have := a1.1; rw [ht] at this; cases this; rfl
  have apart : w ≠ u → tw' + 10 ≤ tu ∨ tu + 10 ≤ tw' := fun y => by
    rcases Nat.lt_or_gt_of_ne y with q | q
    · exact Or.inl (sep w u tw' tu q hu a1.1 ht)
    · exact Or.inr (sep u w tu tw' q hw ht a1.1)
  have cell : ∀ k, k < 10 → k ≠ 0 → k ≠ 3 → k ≠ 4 → cI M' (tw' + k) = cI M (tw' + k) := fun k h1 h2 h3 h4 => by
    by_cases y : w = u
    · have := eq y; exact hI _ (by omega) (by omega) (by omega) (by omega)
    · have := apart y; exact hI _ (by omega) (by omega) (by omega) (by omega)
  have cell0 : ∀ s, s ≠ 8 → s ≠ 9 → cI M' tw' s = cI M tw' s := fun s h1 h2 => by
    by_cases y : w = u
    · rw [eq y]; exact hIt s h1 h2
    · have := apart y; rw [hI tw' (by omega) (by omega) (by omega) (by omega)]
  refine ⟨⟨tw', ?_, ?_, ?_⟩, ?_⟩
  · unfold UA at a1 ⊢
    rw [r20, r21, r22, r23, r24, cell 1 (by decide) (by decide) (by decide) (by decide), hR, cell0 0 (by decide) (by decide), cell0 1 (by decide) (by decide), cell0 6 (by decide) (by decide), cell0 7 (by decide) (by decide)]
    exact a1
  · by_cases y : w = u
    · have e1 := eq y
      subst y
      rw [e1]; exact hub
    · have ap := apart y
      obtain ⟨ni, ns, b1, b2, b3, b4, b5, b6, b7, b8, b9, b10, b11, b12⟩ := a2
      have o : ∀ s, s < 8 → 8 * (24 * bn + w) + s ≠ s0 := fun s hs q => by omega
      refine ⟨ni, ns, b1, b2, by rw [hI tw' (by omega) (by omega) (by omega) (by omega)]; exact b3, by rw [hB 25 (by omega) _ (by omega)]; exact b4, by rw [hI tw' (by omega) (by omega) (by omega) (by omega)]; exact b5, by rw [hB 31 (by omega) _ (by omega)]; exact b6, by rw [hB 30 (by omega) _ (by omega)]; exact b7, ?_, fun s hs => ?_, fun r hr => ?_, fun s s' hs hs' => ?_, by rw [hI (tw' + 4) (by omega) (by omega) (by omega) (by omega)]; exact b12⟩
      · refine ⟨fun d hd r hr => by rw [hD _ (o d (by omega))]; exact b8.1 d hd r hr, fun d d' hd hd' => by rw [hD _ (o d (by omega)), hD _ (o d' (by omega))]; exact b8.2 d d' hd hd'⟩
      · rw [hL (tw' + 2) (by omega) (by omega), hI (tw' + 3) (by omega) (by omega) (by omega) (by omega), hI (tw' + 4) (by omega) (by omega) (by omega) (by omega), hD _ (o s (by omega)), hC 27 (by omega) _ (o s (by omega)), hC 28 (by omega) _ (o s (by omega)), hC 29 (by omega) _ (o s (by omega))]
        exact b9 s hs
      · obtain ⟨s, x1, x2, x3⟩ := b10 r hr
        exact ⟨s, x1, by rw [hC 27 (by omega) _ (o s (by omega))]; exact x2, by rw [hC 29 (by omega) _ (o s (by omega))]; exact x3⟩
      · rw [hC 27 (by omega) _ (o s (by omega)), hC 27 (by omega) _ (o s' (by omega)), hC 29 (by omega) _ (o s (by omega)), hC 29 (by omega) _ (o s' (by omega))]
        exact b11 s s' hs hs'
  · unfold UC at a3 ⊢
    obtain ⟨su, L, c1, c2, c3, c4, c5, c6, c7⟩ := a3
    have : cI M' su = cI M su := by
      have := cell 8 (by decide) (by decide) (by decide) (by decide)
      rw [c5.2.2]; exact this
    exact ⟨su, L, by rw [hR]; exact c1, c2, c3, c4, c5, fun j hj => by rw [this]; exact c6 j hj, c7⟩
  · unfold flq at a4 ⊢
    rw [r22, r23, r24]
    exact a4
/-- a setting more -/
theorem UB.sett {ni ns : Nat} {x : Int64} {w : Int32} (h : UB M S bn u tu) (h8 : cI M tu 8 = nI ni) (h9 : cI M tu 9 = nI ns) (hns : ns ≤ 8) (hn : ni < 8) (hk : ∀ r, r < 25 → x ≠ kwT r) (hx : ∀ s, s < ni → mL S 26 (8 * (24 * bn + u) + s) ≠ x)
    (m8 : cI M' tu 8 = nI (ni + 1)) (m9 : cI M' tu 9 = nI ns) (m2 : ∀ s, cL M' (tu + 2) s = if s = ni then x else cL M (tu + 2) s) (m3 : ∀ s, cI M' (tu + 3) s = if s = ni then w else cI M (tu + 3) s) (m4 : cI M' (tu + 4) = cI M (tu + 4))
    (s25 : mA S' 25 (24 * bn + u) = nI (ni + 1)) (s30 : mA S' 30 (24 * bn + u) = mA S 30 (24 * bn + u) + 1) (s31 : mA S' 31 (24 * bn + u) = mA S 31 (24 * bn + u)) (s26 : ∀ i, mL S' 26 i = if i = 8 * (24 * bn + u) + ni then x else mL S 26 i) (s27 : ∀ i, mA S' 27 i = if i = 8 * (24 * bn + u) + ni then 1 else mA S 27 i) (s28 : ∀ i, mA S' 28 i = if i = 8 * (24 * bn + u) + ni then w else mA S 28 i) (s29 : ∀ i, i ≠ 8 * (24 * bn + u) + ni → mA S' 29 i = mA S 29 i) : UB M' S' bn u tu := by
  obtain ⟨ni', ns', b1, b2, b3, b4, b5, b6, b7, b8, b9, b10, b11, b12⟩ := h
  have e1 : ni' = ni := (nI_eq (by omega) (by omega)).mp (b3.symm.trans h8)
  have e2 : ns' = ns := (nI_eq (by omega) (by omega)).mp (b5.symm.trans h9)
  subst e1
  subst e2
  have o : ∀ s, s < ni' → 8 * (24 * bn + u) + s ≠ 8 * (24 * bn + u) + ni' := fun s hs q => by omega
  refine ⟨ni' + 1, ns', by omega, by omega, m8, s25, m9, s31.trans b6, ?_, ⟨fun d hd r hr => ?_, fun d d' hd hd' => ?_⟩, fun s hs => ?_, fun r hr => ?_, fun s s' hs hs' => ?_, fun s hs => ?_⟩
  · rw [s30, b7, nI_1]; congr 1; omega
  · rw [s26]
    by_cases q : d = ni'
    · rw [if_pos (by omega)]; exact hk r hr
    · rw [if_neg (by omega)]; exact b8.1 d (by omega) r hr
  · rw [s26, s26]
    by_cases q : d = ni'
    · by_cases q2 : d' = ni'
      · omega
      · rw [if_pos (by omega), if_neg (by omega)]; exact fun y => absurd y.symm (hx d' (by omega))
    · by_cases q2 : d' = ni'
      · rw [if_neg (by omega), if_pos (by omega)]; exact fun y => absurd y (hx d (by omega))
      · rw [if_neg (by omega), if_neg (by omega)]; exact b8.2 d d' (by omega) (by omega)
  · rw [m2, s26, s27, s28, m3, m4]
    by_cases q : s = ni'
    · rw [if_pos q, if_pos (show 8 * (24 * bn + u) + s = 8 * (24 * bn + u) + ni' by omega), if_pos (show 8 * (24 * bn + u) + s = 8 * (24 * bn + u) + ni' by omega), if_pos (show 8 * (24 * bn + u) + s = 8 * (24 * bn + u) + ni' by omega), if_pos q]
      exact ⟨rfl, Or.inl ⟨rfl, b12 s (by omega), rfl⟩⟩
    · rw [if_neg q, if_neg (o s (by omega)), if_neg (o s (by omega)), if_neg (o s (by omega)), if_neg q, s29 _ (o s (by omega))]
      exact b9 s (by omega)
  · obtain ⟨s, x1, x2, x3⟩ := b10 r hr
    exact ⟨s, by omega, by rw [s27, if_neg (o s x1)]; exact x2, by rw [s29 _ (o s x1)]; exact x3⟩
  · rw [s27, s27]
    by_cases q : s = ni'
    · rw [if_pos (by omega)]; exact fun y => absurd y (by decide)
    · by_cases q2 : s' = ni'
      · rw [if_pos (show 8 * (24 * bn + u) + s' = 8 * (24 * bn + u) + ni' by omega)]; exact fun _ y => absurd y (by decide)
      · rw [if_neg (o s (by omega)), if_neg (o s' (by omega)), s29 _ (o s (by omega)), s29 _ (o s' (by omega))]
        exact b11 s s' (by omega) (by omega)
  · rw [m4]; exact b12 s (by omega)
/-- a static more -/
theorem UB.stat {ni ns : Nat} {x : Int64} (h : UB M S bn u tu) (h8 : cI M tu 8 = nI ni) (h9 : cI M tu 9 = nI ns) (hns : ns ≤ 8) (hn : ni < 8) (hk : ∀ r, r < 25 → x ≠ kwT r) (hx : ∀ s, s < ni → mL S 26 (8 * (24 * bn + u) + s) ≠ x)
    (m8 : cI M' tu 8 = nI (ni + 1)) (m9 : cI M' tu 9 = nI (ns + 1)) (m2 : ∀ s, cL M' (tu + 2) s = if s = ni then x else cL M (tu + 2) s) (m3 : ∀ s, cI M' (tu + 3) s = if s = ni then nI ns else cI M (tu + 3) s) (m4 : ∀ s, cI M' (tu + 4) s = if s = ni then 1 else cI M (tu + 4) s)
    (s25 : mA S' 25 (24 * bn + u) = nI (ni + 1)) (s30 : mA S' 30 (24 * bn + u) = mA S 30 (24 * bn + u)) (s31 : mA S' 31 (24 * bn + u) = mA S 31 (24 * bn + u) + 1) (s26 : ∀ i, mL S' 26 i = if i = 8 * (24 * bn + u) + ni then x else mL S 26 i) (s27 : ∀ i, mA S' 27 i = if i = 8 * (24 * bn + u) + ni then 0 else mA S 27 i) (s28 : ∀ i, i ≠ 8 * (24 * bn + u) + ni → mA S' 28 i = mA S 28 i) (s29 : ∀ i, mA S' 29 i = if i = 8 * (24 * bn + u) + ni then nI ns else mA S 29 i) : UB M' S' bn u tu := by
  obtain ⟨ni', ns', b1, b2, b3, b4, b5, b6, b7, b8, b9, b10, b11, b12⟩ := h
  have e1 : ni' = ni := (nI_eq (by omega) (by omega)).mp (b3.symm.trans h8)
  have e2 : ns' = ns := (nI_eq (by omega) (by omega)).mp (b5.symm.trans h9)
  subst e1
  subst e2
  have o : ∀ s, s < ni' → 8 * (24 * bn + u) + s ≠ 8 * (24 * bn + u) + ni' := fun s hs q => by omega
  have old : ∀ s, s < ni' → mA S 27 (8 * (24 * bn + u) + s) = 0 → mA S 29 (8 * (24 * bn + u) + s) ≠ nI ns' := fun s hs h0 q => by
    rcases (b9 s hs).2 with y | y
    · rw [y.1] at h0; exact absurd h0 (by decide)
    · obtain ⟨r, r1, r2⟩ := y.2.2.2
      rw [r2] at q
      have := (nI_eq (by omega) (by omega)).mp q
      omega
  refine ⟨ni' + 1, ns' + 1, by omega, by omega, m8, s25, m9, by rw [s31, b6, nI_1], ?_, ⟨fun d hd r hr => ?_, fun d d' hd hd' => ?_⟩, fun s hs => ?_, fun r hr => ?_, fun s s' hs hs' => ?_, fun s hs => ?_⟩
  · rw [s30, b7]; congr 1; omega
  · rw [s26]
    by_cases q : d = ni'
    · rw [if_pos (by omega)]; exact hk r hr
    · rw [if_neg (by omega)]; exact b8.1 d (by omega) r hr
  · rw [s26, s26]
    by_cases q : d = ni'
    · by_cases q2 : d' = ni'
      · omega
      · rw [if_pos (by omega), if_neg (by omega)]; exact fun y => absurd y.symm (hx d' (by omega))
    · by_cases q2 : d' = ni'
      · rw [if_neg (by omega), if_pos (by omega)]; exact fun y => absurd y (hx d (by omega))
      · rw [if_neg (by omega), if_neg (by omega)]; exact b8.2 d d' (by omega) (by omega)
  · rw [m2, s26, s27, s29, m3, m4]
    by_cases q : s = ni'
    · have e : 8 * (24 * bn + u) + s = 8 * (24 * bn + u) + ni' := by omega
      rw [if_pos q, if_pos e, if_pos e, if_pos q, if_pos e, if_pos q]
      exact ⟨rfl, Or.inr ⟨rfl, rfl, rfl, ns', by omega, rfl⟩⟩
    · rw [if_neg q, if_neg (o s (by omega)), if_neg (o s (by omega)), if_neg q, if_neg (o s (by omega)), if_neg q, s28 _ (o s (by omega))]
      obtain ⟨y1, y2⟩ := b9 s (by omega)
      refine ⟨y1, ?_⟩
      rcases y2 with y | ⟨y3, y4, y5, r, y6, y7⟩
      · exact Or.inl y
      · exact Or.inr ⟨y3, y4, y5, r, by omega, y7⟩
  · by_cases q : r = ns'
    · exact ⟨ni', by omega, by rw [s27, if_pos rfl], by rw [s29, if_pos rfl, q]⟩
    · obtain ⟨s, x1, x2, x3⟩ := b10 r (by omega)
      exact ⟨s, by omega, by rw [s27, if_neg (o s x1)]; exact x2, by rw [s29, if_neg (o s x1)]; exact x3⟩
  · rw [s27, s27, s29, s29]
    by_cases q : s = ni'
    · by_cases q2 : s' = ni'
      · exact fun _ _ _ => by omega
      · rw [if_pos (show 8 * (24 * bn + u) + s = 8 * (24 * bn + u) + ni' by omega), if_neg (o s' (by omega)), if_pos (show 8 * (24 * bn + u) + s = 8 * (24 * bn + u) + ni' by omega), if_neg (o s' (by omega))]
        exact fun _ h0 y => absurd y.symm (old s' (by omega) h0)
    · by_cases q2 : s' = ni'
      · rw [if_neg (o s (by omega)), if_pos (show 8 * (24 * bn + u) + s' = 8 * (24 * bn + u) + ni' by omega), if_neg (o s (by omega)), if_pos (show 8 * (24 * bn + u) + s' = 8 * (24 * bn + u) + ni' by omega)]
        exact fun h0 _ y => absurd y (old s (by omega) h0)
      · rw [if_neg (o s (by omega)), if_neg (o s' (by omega)), if_neg (o s (by omega)), if_neg (o s' (by omega))]
        exact b11 s s' (by omega) (by omega)
  · rw [m4, if_neg (by omega)]; exact b12 s (by omega)
end ITEMS
