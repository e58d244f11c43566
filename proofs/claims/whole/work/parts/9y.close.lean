/-! a unit's closing and end -/
section CLOSE
variable {N z b bn sm size t nd nu nm iu u tu : Nat} {ex ex' : Nat → Nat → Prop} {K0 K : Ka} {M M' M'' : Cm} {S S' S'' : Ms} {mk mk' : List Mk} {j : Jt} {rc cc a v rv dp n f : Nat}
theorem PU.obj (h : PU K M S bn sm nu) (hu : u < nu) (ht : cR M (sm + 6) u = some tu) (hI : ∀ q, sm + 11 ≤ q → q ≠ tu → cI M' q = cI M q) (hIt : ∀ s, s < 10 → cI M' tu s = cI M tu s) (hL : ∀ q, sm + 11 ≤ q → cL M' q = cL M q) (hR : cR M' = cR M) (hA : ∀ k, 20 ≤ k → k ≤ 31 → mA S' k = mA S k) (hD : mL S' 26 = mL S 26) : PU K M' S' bn sm nu := by
  obtain ⟨p1, p2, fl, p3⟩ := h
  have sep := p2.2.2.2.2
  refine ⟨by rw [hR]; exact p1, by unfold SEP; rw [hR]; exact p2, fl, fun w hw => ?_⟩
  obtain ⟨⟨tw', a1, a2, a3⟩, a4⟩ := p3 w hw
  have htw := a1.2.1
  have r20 := hA 20 (by decide) (by decide)
  have r21 := hA 21 (by decide) (by decide)
  have r22 := hA 22 (by decide) (by decide)
  have r23 := hA 23 (by decide) (by decide)
  have r24 := hA 24 (by decide) (by decide)
  have r25 := hA 25 (by decide) (by decide)
  have r27 := hA 27 (by decide) (by decide)
  have r28 := hA 28 (by decide) (by decide)
  have r29 := hA 29 (by decide) (by decide)
  have r30 := hA 30 (by decide) (by decide)
  have r31 := hA 31 (by decide) (by decide)
  have eq : w = u → tw' = tu := fun y => by subst y; have := a1.1; rw [ht] at this; cases this; rfl
  have apart : w ≠ u → tw' + 10 ≤ tu ∨ tu + 10 ≤ tw' := fun y => by
    rcases Nat.lt_or_gt_of_ne y with q | q
    · exact Or.inl (sep w u tw' tu q hu a1.1 ht)
    · exact Or.inr (sep u w tu tw' q hw ht a1.1)
  have cell : ∀ k, k < 10 → k ≠ 0 → cI M' (tw' + k) = cI M (tw' + k) := fun k h1 h2 => by
    by_cases y : w = u
    · have := eq y; exact hI _ (by omega) (by omega)
    · have := apart y; exact hI _ (by omega) (by omega)
  have cell0 : ∀ s, s < 10 → cI M' tw' s = cI M tw' s := fun s h1 => by
    by_cases y : w = u
    · rw [eq y]; exact hIt s h1
    · have := apart y; rw [hI tw' (by omega) (by omega)]
  refine ⟨⟨tw', ?_, ?_, ?_⟩, ?_⟩
  · unfold UA at a1 ⊢
    rw [r20, r21, r22, r23, r24, cell 1 (by decide) (by decide), hR, cell0 0 (by decide), cell0 1 (by decide), cell0 6 (by decide), cell0 7 (by decide)]
    exact a1
  · unfold UB NM1 at a2 ⊢
    rw [r25, r27, r28, r29, r30, r31, hD, cell0 8 (by decide), cell0 9 (by decide), hL (tw' + 2) (by omega), cell 3 (by decide) (by decide), cell 4 (by decide) (by decide)]
    exact a2
  · unfold UC at a3 ⊢
    obtain ⟨su, L, c1, c2, c3, c4, c5, c6, c7⟩ := a3
    have : cI M' su = cI M su := by
      have := cell 8 (by decide) (by decide)
      rw [c5.2.2]; exact this
    exact ⟨su, L, by rw [hR]; exact c1, c2, c3, c4, c5, fun j hj => by rw [this]; exact c6 j hj, c7⟩
  · unfold flq at a4 ⊢
    rw [r22, r23, r24]
    exact a4
/-- a place told in a unit, or leans -/
theorem PS.obj (hP : PS z b bn sm size t nd nu nm iu ex K0 K M S mk j rc cc a v rv dp) (hu : u < nu) (ht : cR M (sm + 6) u = some tu) (htu : sm + 11 ≤ tu) (mI : ∀ q, q ≠ tu → cI M' q = cI M q) (mIt : ∀ s, s < 10 → cI M' tu s = cI M tu s) (mL' : cL M' = cL M) (mR : cR M' = cR M) (sF : mF S' = mF S) (sA : ∀ k, k ≠ 33 → k ≠ 34 → mA S' k = mA S k) (sL : mL S' = mL S) (hl : LE bn sm nu ex' M' S') :
    PS z b bn sm size t nd nu nm iu ex' K0 K M' S' mk j rc cc a v rv dp := by
  have hz := hP.hz
  obtain ⟨e, s, p, c, dd, l, q1, q2, q3, q4⟩ := hP
  obtain ⟨nw, rr, pu, x42, x49, x4, xiu⟩ := s
  obtain ⟨w1, w2, w3, w4, w5, w6, w7, w8, w9, w10, w11, w14, w15⟩ := nw
  have lo : ∀ q, q < sm + 11 → cI M' q = cI M q := fun q hq => mI q (by omega)
  have pt : PT z K M' S' size t a := (p.sst (by rw [sF]) (by rw [sF]) (sA 4 (by omega) (by omega)) (sA 5 (by omega) (by omega)) (by rw [sL]) (by rw [sL])).cst (fun q hq => lo q (by omega)) (fun s _ => by rw [lo (z + 7) (by omega)]) (by rw [mL']) mR
  refine ⟨e, ⟨⟨w1, by rw [sF]; exact w2, by rw [mR]; exact w3, w4, w5, w6, w7, by rw [lo sm (by omega)]; exact w8, by rw [sA 13 (by omega) (by omega)]; exact w9, by rw [lo sm (by omega)]; exact w10, by rw [sA 18 (by omega) (by omega)]; exact w11, w14.st rr.1 (by rw [mR]) (by rw [mL']) (by rw [sL]), w15.st rr.2.1 (by rw [mR]) (by rw [mL']) (by rw [sL])⟩, by rw [mR]; exact rr, ?_, by rw [sF]; exact x42, by rw [sF]; exact x49, by rw [lo (z + 7) (by omega)]; exact x4, xiu⟩, pt, ?_, ?_, hl, by rw [sF]; exact q1, by rw [sF]; exact q2, q3, q4⟩
  · exact pu.obj hu ht (fun q _ h1 => mI q h1) mIt (fun q _ => by rw [mL']) mR (fun k _ _ => sA k (by omega) (by omega)) (by rw [sL])
  · obtain ⟨y1, y2, y3, y4, y5, y6, y7, y8, y9⟩ := c
    exact ⟨pt.1, y2, by rw [mR]; exact y3, y4, by rw [mR]; exact y5, y6, y7, by rw [lo sm (by omega)]; exact y8, y9⟩
  · exact dd.q (by rw [mL']) (fun k hk => sA k (by omega) (by omega)) (by rw [sF]) (Nat.le_refl _)
/-- a place marked -/
theorem PS.pos (hP : PS z b bn sm size t nd nu nm iu ex K0 K M S mk (0, [], 0) rc cc a v rv dp) : PS z b bn sm size t nd nu nm iu ex K0 K M S (pmk rc cc :: mk) (0, [], 0) rc cc a v rv dp := by
  obtain ⟨e, s, p, c, dd, q⟩ := hP
  exact ⟨e, s, p, c, dd.pos, q⟩
/-- the instruction that ends -/
theorem PS.fin {r : Nat} (hP : PS z b bn sm size t nd nu nm iu ex K0 K M S mk (0, [], r) rc cc a (v + 1) rv dp) (hr : r ≤ 90) :
    PS z b bn sm size t nd nu nm iu ex K0 K (emC M sm cc (wd 20 0 0)) (emS S (10000 * bn + rc) rc 0 0 0) (emk (rc + 1) (cc + 1) :: mk) (0, [], 0) (rc + 1) (cc + 1) a v rv dp ∧ FR z b sm K0 M (emC M sm cc (wd 20 0 0)) S (emS S (10000 * bn + rc) rc 0 0 0) :=
  hP.em (x := (0, 0, 0)) (ρ := 90) (by decide) (by decide) (by decide) ⟨⟨hr, by decide⟩, VO.triv (Or.inl rfl), ⟨Nat.zero_le _, Nat.zero_le _⟩, fun _ => ⟨rfl, rfl⟩, fun q => absurd q (by decide), fun q => absurd q (by decide), fun q => absurd q (by decide), fun _ => rfl, Nat.zero_le _, Or.inl rfl⟩
/-- the leans of the head, told by both -/
theorem LE.fin (h : LE bn sm nu ex M S) (hu : u < nu) (hl : LN S S' (24 * bn + u)) (hex : ∀ u' w, u' < 24 → w < 24 → (ex u' w ↔ u' = u ∧ LNx S (24 * bn + u) w)) : LE bn sm nu (fun _ _ => False) M S' := by
  obtain ⟨-, -, -, l4, l5⟩ := hl
  intro u' w hu' hw
  obtain ⟨h1, h2, h3⟩ := h u' w hu' hw
  have c := l5 (24 * (24 * bn + u') + w)
  have inj : ∀ w', w' < 24 → 24 * (24 * bn + u') + w = 24 * (24 * bn + u) + w' → u' = u ∧ w = w' := fun w' hw' q => ⟨by omega, by omega⟩
  refine ⟨⟨fun q => Or.inl ?_, fun q => ?_⟩, ?_, fun y => ?_⟩
  · rcases h1.mp q with y | y
    · rcases c with z | z
      · rw [z]; exact y
      · exact z.1
    · obtain ⟨y1, y2⟩ := (hex u' w hu' hw).mp y
      rw [y1]
      exact l4 w y2 hw
  · rcases q with q | q
    · refine h1.mpr ?_
      rcases c with z | ⟨-, w', w1, w2, w3⟩
      · exact Or.inl (z ▸ q)
      · obtain ⟨i1, i2⟩ := inj w' w1 w2
        exact Or.inr ((hex u' w hu' hw).mpr ⟨i1, i2 ▸ w3⟩)
    · exact q.elim
  · rcases c with z | z
    · rw [z]; exact h2
    · exact Or.inr z.1
  · rcases c with z | ⟨-, w', w1, w2, w3⟩
    · rw [z]; exact h3 y
    · obtain ⟨i1, i2⟩ := inj w' w1 w2
      omega
end CLOSE
