/-! a unit's rows grown by both -/
section TAB
variable {N z b bn sm size t nd nu nm iu u tu : Nat} {ex : Nat → Nat → Prop} {K0 K : Ka} {M M' M'' : Cm} {S S' S'' : Ms} {mk mk' : List Mk} {j : Jt} {rc cc a v rv dp : Nat}
theorem PT.sst (h : PT z K M S size t a) (h7 : mF S' 7 = mF S 7) (h8 : mF S' 8 = mF S 8) (h4 : mA S' 4 = mA S 4) (h5 : mA S' 5 = mA S 5) (h6 : mL S' 6 = mL S 6) (h10 : mL S' 10 = mL S 10) : PT z K M S' size t a := by
  obtain ⟨a1, a2, a3, a4, a5, a6, a7, a8⟩ := h
  refine ⟨a1, ?_, a3, by rw [h7]; exact a4, by rw [h8]; exact a5, a6, a7, by rw [h10]; exact a8⟩
  unfold TKS TK1 at a2 ⊢
  rw [h4, h5, h6]
  exact a2
theorem PS.tab {ni : Nat} (hP : PS z b bn sm size t nd nu nm iu ex K0 K M S mk j rc cc a v rv dp) (hu : u < nu) (ht : cR M (sm + 6) u = some tu) (htu : sm + 11 ≤ tu) (hn : ni < 8) (h25 : mA S 25 (24 * bn + u) = nI ni)
    (mI : ∀ q, q ≠ tu → q ≠ tu + 3 → q ≠ tu + 4 → cI M' q = cI M q) (mIt : ∀ s, s ≠ 8 → s ≠ 9 → cI M' tu s = cI M tu s) (mL' : ∀ q, q ≠ tu + 2 → cL M' q = cL M q) (mR : cR M' = cR M)
    (sF : mF S' = mF S) (sA : ∀ k, ¬ (25 ≤ k ∧ k ≤ 31) → mA S' k = mA S k) (s25 : ∀ i, mA S' 25 i = if i = 24 * bn + u then nI (ni + 1) else mA S 25 i) (sB : ∀ k, k = 30 ∨ k = 31 → ∀ i, i ≠ 24 * bn + u → mA S' k i = mA S k i) (sC : ∀ k, k = 27 ∨ k = 28 ∨ k = 29 → ∀ i, i ≠ 8 * (24 * bn + u) + ni → mA S' k i = mA S k i) (s26 : mA S' 26 = mA S 26) (sD : ∀ i, i ≠ 8 * (24 * bn + u) + ni → mL S' 26 i = mL S 26 i) (sL : ∀ k, k ≠ 26 → mL S' k = mL S k) (hub : UB M' S' bn u tu) :
    PS z b bn sm size t nd nu nm iu ex K0 K M' S' mk j rc cc a v rv dp ∧ FI z b sm tu K0 M M' S S' := by
  have hz := hP.hz
  obtain ⟨e, s, p, c, dd, l, q1, q2, q3, q4⟩ := hP
  obtain ⟨nw, rr, pu, x42, x49, x4, xiu⟩ := s
  obtain ⟨w1, w2, w3, w4, w5, w6, w7, w8, w9, w10, w11, w14, w15⟩ := nw
  have u24 : u < 24 := by omega
  have lo : ∀ q, q < sm + 11 → cI M' q = cI M q := fun q hq => mI q (by omega) (by omega) (by omega)
  have loL : ∀ q, q < sm + 11 → cL M' q = cL M q := fun q hq => mL' q (by omega)
  have b192 : ∀ k, k = 26 ∨ k = 27 ∨ k = 28 ∨ k = 29 → ¬ OB b k (8 * (24 * bn + u) + ni) := fun k hk => ob_n e.1 e.2.1 (w := 192) (by rcases hk with y | y | y | y <;> subst y <;> rfl) (by decide) (by omega) (by omega)
  have b24 : ∀ k, k = 25 ∨ k = 30 ∨ k = 31 → ¬ OB b k (24 * bn + u) := fun k hk => ob_n e.1 e.2.1 (w := 24) (by rcases hk with y | y | y <;> subst y <;> rfl) (by decide) (by omega) (by omega)
  have ago : AgO b S S' := by
    refine ⟨fun k _ => by rw [sF], fun k i hk => ?_, fun k i hk => ?_⟩
    · by_cases y : 25 ≤ k ∧ k ≤ 31
      · rcases (show k = 25 ∨ k = 26 ∨ k = 27 ∨ k = 28 ∨ k = 29 ∨ k = 30 ∨ k = 31 by omega) with y | y | y | y | y | y | y
        · subst y
          rw [s25, if_neg (fun (w : i = 24 * bn + u) => b24 25 (by omega) (w ▸ hk))]
        · subst y; rw [s26]
        · exact sC k (by omega) i (fun w => b192 k (by omega) (w ▸ hk))
        · exact sC k (by omega) i (fun w => b192 k (by omega) (w ▸ hk))
        · exact sC k (by omega) i (fun w => b192 k (by omega) (w ▸ hk))
        · exact sB k (by omega) i (fun w => b24 k (by omega) (w ▸ hk))
        · exact sB k (by omega) i (fun w => b24 k (by omega) (w ▸ hk))
      · rw [sA k y]
    · by_cases y : k = 26
      · subst y; exact sD i (fun w => b192 26 (by omega) (w ▸ hk))
      · rw [sL k y]
  have aga : AgA z K0 M M' := by
    have := e.2.2.2.1
    exact ⟨fun q h1 _ => ⟨lo q (by omega), loL q (by omega)⟩, fun q s _ _ => by rw [mR]⟩
  have pt : PT z K M' S' size t a := (p.sst (by rw [sF]) (by rw [sF]) (sA 4 (by omega)) (sA 5 (by omega)) (sL 6 (by decide)) (sL 10 (by decide))).cst (fun q hq => lo q (by omega)) (fun s _ => by rw [lo (z + 7) (by omega)]) (loL _ (by omega)) mR
  refine ⟨⟨e, ⟨⟨w1, by rw [sF]; exact w2, by rw [mR]; exact w3, w4, w5, w6, w7, by rw [lo sm (by omega)]; exact w8, by rw [sA 13 (by omega)]; exact w9, by rw [lo sm (by omega)]; exact w10, by rw [sA 18 (by omega)]; exact w11, w14.st rr.1 (by rw [mR]) (loL _ (by omega)) (sL 14 (by decide)), w15.st rr.2.1 (by rw [mR]) (loL _ (by omega)) (sL 19 (by decide))⟩, by rw [mR]; exact rr, ?_, by rw [sF]; exact x42, by rw [sF]; exact x49, by rw [lo (z + 7) (by omega)]; exact x4, xiu⟩, pt, ?_, ?_, l.q (lo _ (by omega)) (sA 34 (by omega)), by rw [sF]; exact q1, by rw [sF]; exact q2, q3, q4⟩, ?_⟩
  · exact pu.slot (s0 := 8 * (24 * bn + u) + ni) hu ht (by omega) hub (fun q _ h1 h2 h3 => mI q h1 h2 h3) mIt (fun q _ h1 => mL' q h1) mR (fun k h1 h2 => sA k (by omega)) (fun k hk i hi => by
      rcases hk with y | y | y
      · subst y; rw [s25, if_neg hi]
      · exact sB k (Or.inl y) i hi
      · exact sB k (Or.inr y) i hi) sC sD
  · obtain ⟨y1, y2, y3, y4, y5, y6, y7, y8, y9⟩ := c
    exact ⟨pt.1, y2, by rw [mR]; exact y3, y4, by rw [mR]; exact y5, y6, y7, by rw [lo sm (by omega)]; exact y8, y9⟩
  · exact dd.slot (loL _ (by omega)) hn h25 s25 sC (fun k hk => sA k (by omega)) (by rw [sF]) (Nat.le_refl _)
  · exact ⟨fun q _ _ _ h1 h2 h3 => mI q h1 h2 h3, mIt, fun q _ h1 => mL' q h1, mR, fun s _ _ => by rw [lo (z + 7) (by omega)], fun s _ => by rw [lo sm (by omega)], fun k _ _ _ _ _ _ => by rw [sF], fun k _ h1 _ _ => sA k h1, sL, aga, ago⟩
/-- the reference's rows behind the sign -/
theorem i244 (N : Nat) {i ni : Nat} (hi : i < 48) (hn : ni < 8) {x2 : Int32} (hx : x2 = 0 ∨ x2 = 1) (x : Int64) (w : Int32) (h8 : mF S 8 = 0) : ∃ S', (if (mF S 8) ≤ 0 then (ck (nI (8 * i + ni)) 384 (ck (nI (8 * i + ni)) 384 (ck (nI (8 * i + ni)) 384 (if x2 = 0 then (ck (nI i) 48 ((bM_item_309 N) (nI i) x2 (nI (8 * i + ni)) (mA (pA (pA (pL S 26 (nI (8 * i + ni) : Int32).toNatClampNeg x) 27 (nI (8 * i + ni) : Int32).toNatClampNeg (vp_nar .boolean x2)) 28 (nI (8 * i + ni) : Int32).toNatClampNeg w) 31 (nI i : Int32).toNatClampNeg) (pA (pA (pL S 26 (nI (8 * i + ni) : Int32).toNatClampNeg x) 27 (nI (8 * i + ni) : Int32).toNatClampNeg (vp_nar .boolean x2)) 28 (nI (8 * i + ni) : Int32).toNatClampNeg w))) else (ck (nI i) 48 ((bM_item_309 N) (nI i) x2 (nI (8 * i + ni)) (mA (pA (pA (pL S 26 (nI (8 * i + ni) : Int32).toNatClampNeg x) 27 (nI (8 * i + ni) : Int32).toNatClampNeg (vp_nar .boolean x2)) 28 (nI (8 * i + ni) : Int32).toNatClampNeg w) 30 (nI i : Int32).toNatClampNeg) (pA (pA (pL S 26 (nI (8 * i + ni) : Int32).toNatClampNeg x) 27 (nI (8 * i + ni) : Int32).toNatClampNeg (vp_nar .boolean x2)) 28 (nI (8 * i + ni) : Int32).toNatClampNeg w))))))) else (some S)) = some S' ∧
    mF S' = mF S ∧ (∀ k, ¬ (25 ≤ k ∧ k ≤ 31) → mA S' k = mA S k) ∧ mA S' 26 = mA S 26 ∧ (∀ q, mA S' 25 q = if q = i then mA S 25 i + 1 else mA S 25 q) ∧ (∀ q, mA S' 30 q = if q = i then mA S 30 i + x2 else mA S 30 q) ∧ (∀ q, mA S' 31 q = if q = i then mA S 31 i + (1 - x2) else mA S 31 q) ∧ (∀ q, mL S' 26 q = if q = 8 * i + ni then x else mL S 26 q) ∧ (∀ k, k ≠ 26 → mL S' k = mL S k) ∧ (∀ q, mA S' 27 q = if q = 8 * i + ni then x2 else mA S 27 q) ∧ (∀ q, mA S' 28 q = if q = 8 * i + ni then w else mA S 28 q) ∧ ∀ q, mA S' 29 q = if q = 8 * i + ni then (if x2 = 0 then mA S 31 i else mA S 30 i) else mA S 29 q := by
  have c1 : ∀ {ρ : Type} (q : Option ρ), ck (nI (8 * i + ni)) 384 q = q := fun q => ck_n (by omega) (by decide)
  have c2 : ∀ {ρ : Type} (q : Option ρ), ck (nI i) 48 q = q := fun q => ck_n hi (by decide)
  have n1 : (nI (8 * i + ni)).toNatClampNeg = 8 * i + ni := nI_clamp (by omega)
  have n2 : (nI i).toNatClampNeg = i := nI_clamp (by omega)
  have nar : vp_nar .boolean x2 = x2 := nar01' hx
  rw [if_pos (show mF S 8 ≤ 0 by rw [h8]; decide)]
  unfold bM_item_309 bM_item_326 bM_item_344
  simp only [c1, c2, n1, n2, nar]
  have ff : ∀ k q, mL (pL S 26 (8 * i + ni) x) k q = if k = 26 ∧ q = 8 * i + ni then x else mL S k q := fun k q => mL_L S 26 (8 * i + ni) x k q
  rcases hx with y | y
  · subst y
    simp only [if_pos]
    refine ⟨_, rfl, rfl, fun k hk => ?_, ?_, fun q => ?_, fun q => ?_, fun q => ?_, fun q => ?_, fun k hk => ?_, fun q => ?_, fun q => ?_, fun q => ?_⟩
    · funext q; simp only [mA_A, mA_L]; rw [if_neg (by omega), if_neg (by omega), if_neg (by omega), if_neg (by omega), if_neg (by omega), if_neg (by omega)]
    · funext q; simp [mA_A, mA_L]
    · simp [mA_A, mA_L]
    · simp [mA_A, mA_L]
    · simp [mA_A, mA_L]
    · show mL (pL S 26 (8 * i + ni) x) 26 q = _; rw [ff]; simp
    · funext q; show mL (pL S 26 (8 * i + ni) x) k q = _; rw [ff, if_neg (fun y => hk y.1)]
    · simp [mA_A, mA_L]
    · simp [mA_A, mA_L]
    · simp [mA_A, mA_L]
  · subst y
    simp only [if_neg (show ¬ (1 : Int32) = 0 by decide)]
    refine ⟨_, rfl, rfl, fun k hk => ?_, ?_, fun q => ?_, fun q => ?_, fun q => ?_, fun q => ?_, fun k hk => ?_, fun q => ?_, fun q => ?_, fun q => ?_⟩
    · funext q; simp only [mA_A, mA_L]; rw [if_neg (by omega), if_neg (by omega), if_neg (by omega), if_neg (by omega), if_neg (by omega), if_neg (by omega)]
    · funext q; simp [mA_A, mA_L]
    · simp [mA_A, mA_L]
    · simp [mA_A, mA_L]
    · simp [mA_A, mA_L]
    · show mL (pL S 26 (8 * i + ni) x) 26 q = _; rw [ff]; simp
    · funext q; show mL (pL S 26 (8 * i + ni) x) k q = _; rw [ff, if_neg (fun y => hk y.1)]
    · simp [mA_A, mA_L]
    · simp [mA_A, mA_L]
    · simp [mA_A, mA_L]
end TAB
