/-! runs: what one step may change of what both keep -/
theorem ph {m n : Nat} (f : Nat → Nat) (h1 : ∀ i, i < n → f i < m) (h2 : ∀ i j, i < j → j < n → f i ≠ f j) : n ≤ m := by
  have e : ((List.range n).map f).length ≤ m := by
    refine nd_len m _ ?_ (fun v hv => ?_)
    · refine List.pairwise_map.mpr (List.Pairwise.imp_of_mem (fun {a b} _ hb hab => h2 a b hab (List.mem_range.mp hb)) List.pairwise_lt_range)
    · obtain ⟨i, hi, rfl⟩ := List.mem_map.mp hv
      exact h1 i (List.mem_range.mp hi)
  rw [List.length_map, List.length_range] at e
  exact e
section DATA
variable {z b nd nu nh no : Nat} {M0 M M' : Cm} {S0 S S' : Ms}
theorem SAg.wI {a k : Nat} {v : Int32} (ha : ¬ stA z a ∧ ¬ (a = z + 30 ∧ k = 7)) (h : SAg z M0 M S0 S) : SAg z M0 (wI M a k v) S0 S := by
  refine ⟨fun x hx => ?_, ?_, h.2.2.1, h.2.2.2.1, h.2.2.2.2⟩
  · rw [cI_wI_ne _ _ _ (show x ≠ a from fun q => ha.1 (q ▸ hx))]; exact h.1 x hx
  · rw [cI_w, if_neg (fun q => ha.2 ⟨q.1.symm, q.2.symm⟩)]; exact h.2.1
theorem SAg.pF {k : Nat} {v : Int32} (hk : ¬ stF k) (h : SAg z M0 M S0 S) : SAg z M0 M S0 (pF S k v) := by
  refine ⟨h.1, h.2.1, h.2.2.1, h.2.2.2.1, fun x hx => ?_, h.2.2.2.2.2⟩
  rw [mF_F, if_neg (show ¬ x = k from fun q => hk (q ▸ hx))]; exact h.2.2.2.2.1 x hx
theorem SAg.pA {k i : Nat} {v : Int32} (hk : ¬ stR k) (h : SAg z M0 M S0 S) : SAg z M0 M S0 (pA S k i v) := by
  refine ⟨h.1, h.2.1, h.2.2.1, h.2.2.2.1, h.2.2.2.2.1, fun x hx => ?_, h.2.2.2.2.2.2⟩
  rw [mA_Ane _ _ _ (show x ≠ k from fun q => hk (q ▸ hx))]; exact h.2.2.2.2.2.1 x hx
theorem V1.ag (e : cI M' (z + 35) 11 = cI M (z + 35) 11) (f : mF S' 65 = mF S 65) (h : V1 z M S) : V1 z M' S' := by
  unfold V1 at h ⊢; rw [e, f]; exact h
theorem RU.ag (e : cI M' (z + 30) 4 = cI M (z + 30) 4) (e2 : cI M' (z + 31) = cI M (z + 31)) (f : mF S' 75 = mF S 75) (a : mA S' 72 = mA S 72 ∧ mA S' 73 = mA S 73 ∧ mA S' 74 = mA S 74) (h : RU z M S) : RU z M' S' := by
  unfold RU at h ⊢; rw [e, e2, f, a.1, a.2.1, a.2.2]; exact h
theorem RH1.ag (e : cI M' (z + 30) 5 = cI M (z + 30) 5) (e2 : cI M' (z + 32) = cI M (z + 32)) (f : mF S' 79 = mF S 79) (a : mA S' 76 = mA S 76 ∧ mA S' 77 = mA S 77 ∧ mA S' 78 = mA S 78) (h : RH1 z M S nh) : RH1 z M' S' nh := by
  unfold RH1 at h ⊢; rw [e, e2, f, a.1, a.2.1, a.2.2]; exact h
theorem RO1.ag (e : cI M' (z + 30) 6 = cI M (z + 30) 6) (e2 : cI M' (z + 33) = cI M (z + 33)) (f : mF S' 84 = mF S 84) (a : mA S' 80 = mA S 80 ∧ mA S' 81 = mA S 81 ∧ mA S' 82 = mA S 82 ∧ mA S' 83 = mA S 83) (h : RO1 z M S no) : RO1 z M' S' no := by
  unfold RO1 at h ⊢; rw [e, e2, f, a.1, a.2.1, a.2.2.1, a.2.2.2]; exact h
theorem RE.ag (e : cI M' (z + 9) = cI M (z + 9) ∧ cI M' (z + 10) = cI M (z + 10) ∧ cI M' (z + 12) = cI M (z + 12) ∧ cI M' (z + 13) = cI M (z + 13) ∧ cI M' (z + 14) = cI M (z + 14) ∧ cI M' (z + 15) = cI M (z + 15)) (a : mA S' 54 = mA S 54 ∧ mA S' 55 = mA S 55 ∧ mA S' 57 = mA S 57 ∧ mA S' 58 = mA S 58 ∧ mA S' 59 = mA S 59 ∧ mA S' 60 = mA S 60) (h : RE z M S nu) : RE z M' S' nu := by
  unfold RE RE1 at h ⊢; rw [e.1, e.2.1, e.2.2.1, e.2.2.2.1, e.2.2.2.2.1, e.2.2.2.2.2, a.1, a.2.1, a.2.2.1, a.2.2.2.1, a.2.2.2.2.1, a.2.2.2.2.2]; exact h
theorem RD.ag (e : cI M' (z + 17) = cI M (z + 17) ∧ cI M' (z + 18) = cI M (z + 18)) (a : mA S' 61 = mA S 61 ∧ mA S' 62 = mA S 62) (h : RD z M S nd) : RD z M' S' nd := by
  unfold RD at h ⊢; rw [e.1, e.2, a.1, a.2]; exact h
theorem CEL.ag (e : cI M' (z + 11) = cI M (z + 11)) (a : mA S' 25 = mA S 25 ∧ mA S' 27 = mA S 27 ∧ mA S' 29 = mA S 29 ∧ mA S' 56 = mA S 56) (h : CEL z b nu M S) : CEL z b nu M' S' := by
  unfold CEL SLs at h ⊢; rw [e, a.1, a.2.1, a.2.2.1, a.2.2.2]; exact h
/-- a unit's state and causes -/
theorem UPI.st {u : Nat} {v : Int32} (hs : mA S 54 u ≠ 2 ∧ mA S 54 u ≠ 4) (hv : v ≠ 2) (f : mF S' 75 = mF S 75) (a : mA S' 55 = mA S 55 ∧ mA S' 72 = mA S 72 ∧ mA S' 73 = mA S 73) (a54 : ∀ j, mA S' 54 j = if j = u then v else mA S 54 j) (h : UPI nu S) : UPI nu S' := by
  obtain ⟨n, h1, h2, h3, h4, h5⟩ := h
  refine ⟨n, by rw [f]; exact h1, h2, fun j hj => ?_, by rw [a.2.1, a.2.2]; exact h4, fun x hx q => ?_⟩
  · obtain ⟨x, e, c, b1, b2, b3, b4, b5, b6, b7⟩ := h3 j hj
    rw [a.1, a.2.1, a.2.2]
    refine ⟨x, e, c, b1, b2, b3, b4, b5, b6, fun q => ?_⟩
    rw [a54]
    by_cases ex : x = u
    · subst ex
      rcases b7 q with w | w
      · exact absurd w hs.1
      · exact absurd w hs.2
    · rw [if_neg ex]; exact b7 q
  · rw [a54] at q
    by_cases ex : x = u
    · rw [if_pos ex] at q; exact absurd q hv
    · rw [if_neg ex] at q
      rw [a.1, a.2.1, a.2.2]
      exact h5 x hx q
theorem RE.st {u : Nat} {v p q : Int32} (hu : u < nu) (hv3 : v ≠ 3 → p = 0 ∧ q = 0) (hv4 : ∃ t, t ≤ 4 ∧ v = nI t) (h : RE z M S nu) : RE z (wI (wI (wI M (z + 9) u v) (z + 12) u p) (z + 13) u q) (pA (pA (pA S 54 u v) 57 u p) 58 u q) nu := by
  intro x hx
  obtain ⟨b1, b2, b3, b4, b5, b6, b7, b8, b9⟩ := h x hx
  have c9 : cI (wI (wI (wI M (z + 9) u v) (z + 12) u p) (z + 13) u q) (z + 9) x = if x = u then v else cI M (z + 9) x := by
    rw [cI_wI_ne _ _ _ (by omega), cI_wI_ne _ _ _ (by omega), cI_w]; simp
  have c12 : cI (wI (wI (wI M (z + 9) u v) (z + 12) u p) (z + 13) u q) (z + 12) x = if x = u then p else cI M (z + 12) x := by
    rw [cI_wI_ne _ _ _ (by omega), cI_w, cI_wI_ne _ _ _ (show z + 12 ≠ z + 9 by omega)]; simp
  have c13 : cI (wI (wI (wI M (z + 9) u v) (z + 12) u p) (z + 13) u q) (z + 13) x = if x = u then q else cI M (z + 13) x := by
    rw [cI_w, cI_wI_ne _ _ _ (show z + 13 ≠ z + 12 by omega), cI_wI_ne _ _ _ (show z + 13 ≠ z + 9 by omega)]; simp
  have co : ∀ a, a ≠ z + 9 → a ≠ z + 12 → a ≠ z + 13 → cI (wI (wI (wI M (z + 9) u v) (z + 12) u p) (z + 13) u q) a = cI M a := fun a h1 h2 h3 => by rw [cI_wI_ne _ _ _ h3, cI_wI_ne _ _ _ h2, cI_wI_ne _ _ _ h1]
  have d54 : mA (pA (pA (pA S 54 u v) 57 u p) 58 u q) 54 x = if x = u then v else mA S 54 x := by
    rw [mA_Ane _ _ _ (by decide), mA_Ane _ _ _ (by decide), mA_A]; simp
  have d57 : mA (pA (pA (pA S 54 u v) 57 u p) 58 u q) 57 x = if x = u then p else mA S 57 x := by
    rw [mA_Ane _ _ _ (by decide), mA_A, mA_Ane _ _ _ (show 57 ≠ 54 by decide)]; simp
  have d58 : mA (pA (pA (pA S 54 u v) 57 u p) 58 u q) 58 x = if x = u then q else mA S 58 x := by
    rw [mA_A, mA_Ane _ _ _ (show 58 ≠ 57 by decide), mA_Ane _ _ _ (show 58 ≠ 54 by decide)]; simp
  have d : ∀ k, k ≠ 54 → k ≠ 57 → k ≠ 58 → mA (pA (pA (pA S 54 u v) 57 u p) 58 u q) k = mA S k := fun k h1 h2 h3 => by rw [mA_Ane _ _ _ h3, mA_Ane _ _ _ h2, mA_Ane _ _ _ h1]
  unfold RE1
  rw [c9, c12, c13, d54, d57, d58, co (z + 10) (by omega) (by omega) (by omega), co (z + 14) (by omega) (by omega) (by omega), co (z + 15) (by omega) (by omega) (by omega), d 55 (by decide) (by decide) (by decide), d 59 (by decide) (by decide) (by decide), d 60 (by decide) (by decide) (by decide)]
  by_cases e : x = u
  · subst e
    simp only [↓reduceIte]
    exact ⟨trivial, b2, trivial, trivial, hv3, b6, b7, hv4, fun w => by omega⟩
  · simp only [if_neg e]
    exact ⟨b1, b2, b3, b4, b5, b6, b7, b8, b9⟩
theorem DD.stg {u : Nat} {v p q : Int32} (hu : u < nu) (hs : mA S 54 u ≠ 2 ∧ mA S 54 u ≠ 4) (hv : v ≠ 2) (hv3 : v ≠ 3 → p = 0 ∧ q = 0) (hv4 : ∃ t, t ≤ 4 ∧ v = nI t) (h : DD z b nd nu M0 S0 nh no M S) : DD z b nd nu M0 S0 nh no (wI (wI (wI M (z + 9) u v) (z + 12) u p) (z + 13) u q) (pA (pA (pA S 54 u v) 57 u p) 58 u q) := by
  obtain ⟨sg, v1, hU, hUP, hH, hO, hE, hN, hD, hC⟩ := h
  have co : ∀ a, a ≠ z + 9 → a ≠ z + 12 → a ≠ z + 13 → cI (wI (wI (wI M (z + 9) u v) (z + 12) u p) (z + 13) u q) a = cI M a := fun a h1 h2 h3 => by rw [cI_wI_ne _ _ _ h3, cI_wI_ne _ _ _ h2, cI_wI_ne _ _ _ h1]
  have d : ∀ k, k ≠ 54 → k ≠ 57 → k ≠ 58 → mA (pA (pA (pA S 54 u v) 57 u p) 58 u q) k = mA S k := fun k h1 h2 h3 => by rw [mA_Ane _ _ _ h3, mA_Ane _ _ _ h2, mA_Ane _ _ _ h1]
  have D : ∀ k, k ≠ 54 ∧ k ≠ 57 ∧ k ≠ 58 → mA (pA (pA (pA S 54 u v) 57 u p) 58 u q) k = mA S k := fun k hk => d k hk.1 hk.2.1 hk.2.2
  have C : ∀ a, a ≠ z + 9 ∧ a ≠ z + 12 ∧ a ≠ z + 13 → cI (wI (wI (wI M (z + 9) u v) (z + 12) u p) (z + 13) u q) a = cI M a := fun a ha => co a ha.1 ha.2.1 ha.2.2
  refine ⟨((((((sg.wI (by unfold stA; omega)).wI (by unfold stA; omega)).wI (by unfold stA; omega)).pA (by unfold stR; omega)).pA (by unfold stR; omega)).pA (by unfold stR; omega)), v1.ag (by rw [C _ (by omega)]) rfl, hU.ag (by rw [C _ (by omega)]) (C _ (by omega)) rfl ⟨D _ (by decide), D _ (by decide), D _ (by decide)⟩, hUP.st hs hv rfl ⟨D _ (by decide), D _ (by decide), D _ (by decide)⟩ (fun j => by rw [mA_Ane _ _ _ (by decide), mA_Ane _ _ _ (by decide), mA_A]; simp), hH.ag (by rw [C _ (by omega)]) (C _ (by omega)) rfl ⟨D _ (by decide), D _ (by decide), D _ (by decide)⟩, hO.ag (by rw [C _ (by omega)]) (C _ (by omega)) rfl ⟨D _ (by decide), D _ (by decide), D _ (by decide), D _ (by decide)⟩, hE.st hu hv3 hv4, hN.ag (S := S) (fun _ _ => by rfl) (fun k hk => D k (by omega)), hD.ag ⟨C _ (by omega), C _ (by omega)⟩ ⟨D _ (by decide), D _ (by decide)⟩, hC.ag (C _ (by omega)) ⟨D _ (by decide), D _ (by decide), D _ (by decide), D _ (by decide)⟩⟩
theorem wI_self (M : Cm) (a k : Nat) : wI M a k (cI M a k) = M := by
  refine Prod.ext (funext fun x => funext fun j => ?_) rfl
  show cI (wI M a k (cI M a k)) x j = cI M x j
  rw [cI_w]
  by_cases e : x = a ∧ j = k
  · rw [if_pos e, e.1, e.2]
  · rw [if_neg e]
theorem pA_self (S : Ms) (k i : Nat) : pA S k i (mA S k i) = S := by
  refine Prod.ext rfl (Prod.ext (funext fun x => funext fun j => ?_) rfl)
  show mA (pA S k i (mA S k i)) x j = mA S x j
  rw [mA_A]
  by_cases e : x = k ∧ j = i
  · rw [if_pos e, e.1, e.2]
  · rw [if_neg e]
/-- a unit begins to come up -/
theorem DD.com {u : Nat} (hu : u < nu) (hn : nu ≤ 24) (hs : mA S 54 u = 0) (h : DD z b nd nu M0 S0 nh no M S) : DD z b nd nu M0 S0 nh no (wI M (z + 9) u 1) (pA S 54 u 1) := by
  obtain ⟨-, -, c3, c4, c5, -⟩ := h.2.2.2.2.2.2.1 u (by omega)
  obtain ⟨c6, c7⟩ := c5 (by rw [hs]; decide)
  have q := DD.stg (v := 1) (p := 0) (q := 0) hu ⟨by rw [hs]; decide, by rw [hs]; decide⟩ (by decide) (fun _ => ⟨rfl, rfl⟩) ⟨1, by decide, rfl⟩ h
  have e1 : wI (wI (wI M (z + 9) u 1) (z + 12) u 0) (z + 13) u 0 = wI M (z + 9) u 1 := by
    have x1 : (0 : Int32) = cI (wI M (z + 9) u 1) (z + 12) u := by rw [cI_wI_ne _ _ _ (by omega), c3, c6]
    have x2 : (0 : Int32) = cI (wI M (z + 9) u 1) (z + 13) u := by rw [cI_wI_ne _ _ _ (by omega), c4, c7]
    have y1 : wI (wI M (z + 9) u 1) (z + 12) u 0 = wI M (z + 9) u 1 := by
      have := wI_self (wI M (z + 9) u 1) (z + 12) u
      rw [← x1] at this; exact this
    have y2 : wI (wI M (z + 9) u 1) (z + 13) u 0 = wI M (z + 9) u 1 := by
      have := wI_self (wI M (z + 9) u 1) (z + 13) u
      rw [← x2] at this; exact this
    rw [y1, y2]
  have e2 : pA (pA (pA S 54 u 1) 57 u 0) 58 u 0 = pA S 54 u 1 := by
    have x1 : (0 : Int32) = mA (pA S 54 u 1) 57 u := by rw [mA_Ane _ _ _ (by decide), c6]
    have x2 : (0 : Int32) = mA (pA S 54 u 1) 58 u := by rw [mA_Ane _ _ _ (by decide), c7]
    have y1 : pA (pA S 54 u 1) 57 u 0 = pA S 54 u 1 := by
      have := pA_self (pA S 54 u 1) 57 u
      rw [← x1] at this; exact this
    have y2 : pA (pA S 54 u 1) 58 u 0 = pA S 54 u 1 := by
      have := pA_self (pA S 54 u 1) 58 u
      rw [← x2] at this; exact this
    rw [y1, y2]
  rw [e1, e2] at q
  exact q
/-- how many came up -/
theorem UPI.room {u n : Nat} (hn : nu ≤ 24) (hu : u < nu) (h : UPI nu S) (h75 : mF S 75 = nI n) (hn7 : n ≤ 744) (hs : mA S 54 u = 1) {c : Nat} (hc : c ≤ 30) (he : mA S 55 u = nI c) : n ≤ 743 := by
  obtain ⟨n', h1, h2, h3, h4, h5⟩ := h
  have q : n' = n := (nI_eq (by omega) (by omega)).mp (h1.symm.trans h75)
  subst q
  have := ph (m := 744) (n := n' + 1) (fun j => if j = n' then 31 * u + c else 31 * (mA S 72 j).toNatClampNeg + (mA S 73 j).toNatClampNeg) (fun i hi => by
    by_cases e : i = n'
    · rw [if_pos e]; omega
    · rw [if_neg e]
      obtain ⟨x, e', c', b1, b2, b3, b4, b5, -⟩ := h3 i (by omega)
      rw [b4, b5, nI_clamp (by omega), nI_clamp (by omega)]
      omega) (fun i j hij hj => by
    rw [if_neg (show ¬ i = n' by omega)]
    obtain ⟨x, e', c', b1, b2, b3, b4, b5, b6, b7⟩ := h3 i (by omega)
    rw [b4, b5, nI_clamp (by omega), nI_clamp (by omega)]
    by_cases e : j = n'
    · rw [if_pos e]
      intro w
      have ex : x = u := by omega
      subst ex
      have ec : c' = c := (nI_eq (by omega) (by omega)).mp (b6.symm.trans he)
      rcases b7 (by omega) with w | w <;> rw [hs] at w <;> exact absurd w (by decide)
    · rw [if_neg e]
      obtain ⟨x2, e2, c2, d1, d2, d3, d4, d5, -⟩ := h3 j (by omega)
      rw [d4, d5, nI_clamp (by omega), nI_clamp (by omega)]
      intro w
      have ex : x = x2 := by omega
      subst ex
      obtain ⟨p, q, r1, r2, r3, r4⟩ := h4 i j hij (by omega) (b4.trans d4.symm)
      have := (nI_eq (by omega) (by omega)).mp (b5.symm.trans r3)
      have := (nI_eq (by omega) (by omega)).mp (d5.symm.trans r4)
      omega)
  omega
theorem UPI.up {u n c : Nat} (hn : nu ≤ 24) (hu : u < nu) (h : UPI nu S) (h75 : mF S 75 = nI n) (hn7 : n ≤ 743) (hs : mA S 54 u = 1) (hc : c ≤ 30) (he : mA S 55 u = nI c) (f : mF S' 75 = nI (n + 1)) (a55 : mA S' 55 = mA S 55) (a54 : ∀ j, mA S' 54 j = if j = u then 2 else mA S 54 j) (a72 : ∀ j, mA S' 72 j = if j = n then nI u else mA S 72 j) (a73 : ∀ j, mA S' 73 j = if j = n then nI c else mA S 73 j) : UPI nu S' := by
  obtain ⟨n', h1, h2, h3, h4, h5⟩ := h
  have q : n' = n := (nI_eq (by omega) (by omega)).mp (h1.symm.trans h75)
  subst q
  have old : ∀ j, j < n' → mA S 72 j = nI u → ∃ e, e < c ∧ mA S 73 j = nI e := fun j hj w => by
    obtain ⟨x, e, c', b1, b2, b3, b4, b5, b6, b7⟩ := h3 j hj
    have ex : x = u := (nI_eq (by omega) (by omega)).mp (b4.symm.trans w)
    subst ex
    have ec : c' = c := (nI_eq (by omega) (by omega)).mp (b6.symm.trans he)
    refine ⟨e, ?_, b5⟩
    by_cases q : e = c'
    · rcases b7 q with w | w <;> rw [hs] at w <;> exact absurd w (by decide)
    · omega
  refine ⟨n' + 1, f, by omega, fun j hj => ?_, fun i j hij hj w => ?_, fun x hx w => ?_⟩
  · rw [a72, a73, a55]
    by_cases e : j = n'
    · rw [if_pos e, if_pos e]
      exact ⟨u, c, c, hu, Nat.le_refl _, hc, rfl, rfl, he, fun _ => Or.inl (by rw [a54, if_pos rfl])⟩
    · rw [if_neg e, if_neg e]
      obtain ⟨x, e', c', b1, b2, b3, b4, b5, b6, b7⟩ := h3 j (by omega)
      refine ⟨x, e', c', b1, b2, b3, b4, b5, b6, fun q => ?_⟩
      rw [a54]
      by_cases ex : x = u
      · rw [if_pos ex]; exact Or.inl rfl
      · rw [if_neg ex]; exact b7 q
  · rw [a72, a72, if_neg (show ¬ i = n' by omega)] at w
    rw [a73, a73, if_neg (show ¬ i = n' by omega)]
    by_cases e : j = n'
    · rw [if_pos e] at w ⊢
      obtain ⟨e', r1, r2⟩ := old i (by omega) w
      exact ⟨e', c, r1, hc, r2, rfl⟩
    · rw [if_neg e] at w ⊢
      exact h4 i j hij (by omega) w
  · rw [a54] at w
    by_cases ex : x = u
    · subst ex
      exact ⟨n', by omega, by rw [a72, if_pos rfl], by rw [a73, if_pos rfl, a55, he]⟩
    · rw [if_neg ex] at w
      obtain ⟨j, r1, r2, r3⟩ := h5 x hx w
      exact ⟨j, by omega, by rw [a72, if_neg (by omega)]; exact r2, by rw [a73, if_neg (by omega), a55]; exact r3⟩
theorem RE.st0 {u : Nat} {v : Int32} (hu : u < nu) (hn : nu ≤ 24) (hs : mA S 54 u ≠ 3) (hv3 : v ≠ 3) (hv4 : ∃ t, t ≤ 4 ∧ v = nI t) (h : RE z M S nu) : RE z (wI M (z + 9) u v) (pA S 54 u v) nu := by
  obtain ⟨-, -, c3, c4, c5, -⟩ := h u (by omega)
  obtain ⟨c6, c7⟩ := c5 hs
  have q := RE.st (p := 0) (q := 0) hu (fun _ => ⟨rfl, rfl⟩) hv4 h
  have x1 : (0 : Int32) = cI (wI M (z + 9) u v) (z + 12) u := by rw [cI_wI_ne _ _ _ (by omega), c3, c6]
  have x2 : (0 : Int32) = cI (wI M (z + 9) u v) (z + 13) u := by rw [cI_wI_ne _ _ _ (by omega), c4, c7]
  have y1 : wI (wI M (z + 9) u v) (z + 12) u 0 = wI M (z + 9) u v := by
    have := wI_self (wI M (z + 9) u v) (z + 12) u
    rw [← x1] at this; exact this
  have y2 : wI (wI M (z + 9) u v) (z + 13) u 0 = wI M (z + 9) u v := by
    have := wI_self (wI M (z + 9) u v) (z + 13) u
    rw [← x2] at this; exact this
  have x3 : (0 : Int32) = mA (pA S 54 u v) 57 u := by rw [mA_Ane _ _ _ (by decide), c6]
  have x4 : (0 : Int32) = mA (pA S 54 u v) 58 u := by rw [mA_Ane _ _ _ (by decide), c7]
  have y3 : pA (pA S 54 u v) 57 u 0 = pA S 54 u v := by
    have := pA_self (pA S 54 u v) 57 u
    rw [← x3] at this; exact this
  have y4 : pA (pA S 54 u v) 58 u 0 = pA S 54 u v := by
    have := pA_self (pA S 54 u v) 58 u
    rw [← x4] at this; exact this
  rw [y1, y2, y3, y4] at q
  exact q
/-- a unit is up -/
theorem DD.up {u n c : Nat} {dm : Int32} (hu : u < nu) (hn : nu ≤ 24) (hs : mA S 54 u = 1) (hc : c ≤ 30) (he : mA S 55 u = nI c) (h75 : mF S 75 = nI n) (hn7 : n ≤ 743) (h : DD z b nd nu M0 S0 nh no M S) :
    DD z b nd nu M0 S0 nh no (wI (wI (wI (wI (wI M (z + 9) u 2) (z + 31) (n * 3) (nI u)) (z + 31) (n * 3 + 1) (nI c)) (z + 31) (n * 3 + 2) dm) (z + 30) 4 (nI (n + 1))) (pF (pA (pA (pA (pA S 54 u 2) 72 n (nI u)) 73 n (nI c)) 74 n dm) 75 (nI (n + 1))) := by
  obtain ⟨sg, v1, hU, hUP, hH, hO, hE, hN, hD, hC⟩ := h
  have C : ∀ a, a ≠ z + 9 ∧ a ≠ z + 31 ∧ a ≠ z + 30 → cI (wI (wI (wI (wI (wI M (z + 9) u 2) (z + 31) (n * 3) (nI u)) (z + 31) (n * 3 + 1) (nI c)) (z + 31) (n * 3 + 2) dm) (z + 30) 4 (nI (n + 1))) a = cI M a := fun a ha => by
    rw [cI_wI_ne _ _ _ ha.2.2, cI_wI_ne _ _ _ ha.2.1, cI_wI_ne _ _ _ ha.2.1, cI_wI_ne _ _ _ ha.2.1, cI_wI_ne _ _ _ ha.1]
  have c30 : ∀ k, k ≠ 4 → cI (wI (wI (wI (wI (wI M (z + 9) u 2) (z + 31) (n * 3) (nI u)) (z + 31) (n * 3 + 1) (nI c)) (z + 31) (n * 3 + 2) dm) (z + 30) 4 (nI (n + 1))) (z + 30) k = cI M (z + 30) k := fun k hk => by
    rw [cI_w, if_neg (fun q => hk q.2), cI_wI_ne _ _ _ (by omega), cI_wI_ne _ _ _ (by omega), cI_wI_ne _ _ _ (by omega), cI_wI_ne _ _ _ (by omega)]
  have D : ∀ k, k ≠ 54 ∧ k ≠ 72 ∧ k ≠ 73 ∧ k ≠ 74 → mA (pF (pA (pA (pA (pA S 54 u 2) 72 n (nI u)) 73 n (nI c)) 74 n dm) 75 (nI (n + 1))) k = mA S k := fun k hk => by
    rw [mA_F, mA_Ane _ _ _ hk.2.2.2, mA_Ane _ _ _ hk.2.2.1, mA_Ane _ _ _ hk.2.1, mA_Ane _ _ _ hk.1]
  have F : ∀ k, k ≠ 75 → mF (pF (pA (pA (pA (pA S 54 u 2) 72 n (nI u)) 73 n (nI c)) 74 n dm) 75 (nI (n + 1))) k = mF S k := fun k hk => by
    rw [mF_F, if_neg hk, mF_A, mF_A, mF_A, mF_A]
  refine ⟨((((((((((sg.wI (by unfold stA; omega)).wI (by unfold stA; omega)).wI (by unfold stA; omega)).wI (by unfold stA; omega)).wI (by unfold stA; omega)).pA (by unfold stR; omega)).pA (by unfold stR; omega)).pA (by unfold stR; omega)).pA (by unfold stR; omega)).pF (by unfold stF; omega)), v1.ag (by rw [C _ (by omega)]) (F _ (by decide)), ?_, ?_, hH.ag (c30 _ (by decide)) (C _ (by omega)) (F _ (by decide)) ⟨D _ (by decide), D _ (by decide), D _ (by decide)⟩, hO.ag (c30 _ (by decide)) (C _ (by omega)) (F _ (by decide)) ⟨D _ (by decide), D _ (by decide), D _ (by decide), D _ (by decide)⟩, ?_, ⟨hN.1.ag (fun k hk => D k (by omega)), ?_⟩, hD.ag ⟨C _ (by omega), C _ (by omega)⟩ ⟨D _ (by decide), D _ (by decide)⟩, hC.ag (C _ (by omega)) ⟨D _ (by decide), D _ (by decide), D _ (by decide), D _ (by decide)⟩⟩
  · obtain ⟨n', r1, r2, r3, r4⟩ := hU
    have en : n' = n := (nI_eq (by omega) (by omega)).mp (r3.symm.trans h75)
    subst en
    refine ⟨n' + 1, by omega, by rw [cI_w, if_pos ⟨rfl, rfl⟩], by rw [mF_F, if_pos rfl], fun j hj => ?_⟩
    have d72 : mA (pF (pA (pA (pA (pA S 54 u 2) 72 n' (nI u)) 73 n' (nI c)) 74 n' dm) 75 (nI (n' + 1))) 72 j = if j = n' then nI u else mA S 72 j := by
      rw [mA_F, mA_Ane _ _ _ (by decide), mA_Ane _ _ _ (by decide), mA_A, mA_Ane _ _ _ (by decide)]; simp
    have d73 : mA (pF (pA (pA (pA (pA S 54 u 2) 72 n' (nI u)) 73 n' (nI c)) 74 n' dm) 75 (nI (n' + 1))) 73 j = if j = n' then nI c else mA S 73 j := by
      rw [mA_F, mA_Ane _ _ _ (by decide), mA_A, mA_Ane _ _ _ (by decide), mA_Ane _ _ _ (by decide)]; simp
    have d74 : mA (pF (pA (pA (pA (pA S 54 u 2) 72 n' (nI u)) 73 n' (nI c)) 74 n' dm) 75 (nI (n' + 1))) 74 j = if j = n' then dm else mA S 74 j := by
      rw [mA_F, mA_A, mA_Ane _ _ _ (by decide), mA_Ane _ _ _ (by decide), mA_Ane _ _ _ (by decide)]; simp
    have c31 : ∀ i, cI (wI (wI (wI (wI (wI M (z + 9) u 2) (z + 31) (n' * 3) (nI u)) (z + 31) (n' * 3 + 1) (nI c)) (z + 31) (n' * 3 + 2) dm) (z + 30) 4 (nI (n' + 1))) (z + 31) i = if i = n' * 3 + 2 then dm else if i = n' * 3 + 1 then nI c else if i = n' * 3 then nI u else cI M (z + 31) i := fun i => by
      rw [cI_wI_ne _ _ _ (by omega), cI_w, cI_w, cI_w, cI_wI_ne _ _ _ (by omega)]; simp
    rw [d72, d73, d74, c31, c31, c31]
    by_cases e : j = n'
    · subst e
      rw [if_pos rfl, if_pos rfl, if_pos rfl, if_neg (by omega), if_neg (by omega), if_pos rfl, if_neg (by omega), if_pos rfl, if_pos rfl]
      exact ⟨rfl, rfl, rfl⟩
    · rw [if_neg e, if_neg e, if_neg e, if_neg (by omega), if_neg (by omega), if_neg (by omega), if_neg (by omega), if_neg (by omega), if_neg (by omega), if_neg (by omega), if_neg (by omega), if_neg (by omega)]
      exact r4 j (by omega)
  · refine hUP.up hn hu h75 hn7 hs hc he (by rw [mF_F, if_pos rfl]) (D _ (by decide)) (fun j => ?_) (fun j => ?_) (fun j => ?_)
    · rw [mA_F, mA_Ane _ _ _ (by decide), mA_Ane _ _ _ (by decide), mA_Ane _ _ _ (by decide), mA_A]; simp
    · rw [mA_F, mA_Ane _ _ _ (by decide), mA_Ane _ _ _ (by decide), mA_A, mA_Ane _ _ _ (by decide)]; simp
    · rw [mA_F, mA_Ane _ _ _ (by decide), mA_A, mA_Ane _ _ _ (by decide), mA_Ane _ _ _ (by decide)]; simp
  · refine RE.ag (M := wI M (z + 9) u 2) (S := pA S 54 u 2) ⟨?_, ?_, ?_, ?_, ?_, ?_⟩ ⟨?_, ?_, ?_, ?_, ?_, ?_⟩ (hE.st0 hu hn (by rw [hs]; decide) (by decide) ⟨2, by decide, rfl⟩)
    any_goals rw [cI_wI_ne _ _ _ (by omega), cI_wI_ne _ _ _ (by omega), cI_wI_ne _ _ _ (by omega), cI_wI_ne _ _ _ (by omega)]
    all_goals rw [mA_F, mA_Ane _ _ _ (by decide), mA_Ane _ _ _ (by decide), mA_Ane _ _ _ (by decide)]
  · obtain ⟨⟨n0, n', g1, g2, g3, g4, g5, g6⟩, g7, g8, g9⟩ := hN.2
    have en : n' = n := (nI_eq (by omega) (by omega)).mp (g2.symm.trans h75)
    subst en
    have d72 : ∀ j, mA (pF (pA (pA (pA (pA S 54 u 2) 72 n' (nI u)) 73 n' (nI c)) 74 n' dm) 75 (nI (n' + 1))) 72 j = if j = n' then nI u else mA S 72 j := fun j => by
      rw [mA_F, mA_Ane _ _ _ (by decide), mA_Ane _ _ _ (by decide), mA_A, mA_Ane _ _ _ (by decide)]; simp
    have d73 : ∀ j, mA (pF (pA (pA (pA (pA S 54 u 2) 72 n' (nI u)) 73 n' (nI c)) 74 n' dm) 75 (nI (n' + 1))) 73 j = if j = n' then nI c else mA S 73 j := fun j => by
      rw [mA_F, mA_Ane _ _ _ (by decide), mA_A, mA_Ane _ _ _ (by decide), mA_Ane _ _ _ (by decide)]; simp
    refine ⟨⟨n0, n' + 1, g1, by rw [mF_F, if_pos rfl], by omega, by omega, fun j hj => ?_, fun j q1 q2 => ?_⟩, fun v hv => ?_, ?_, ?_⟩
    · rw [d72, d73, if_neg (by omega), if_neg (by omega)]; exact g5 j hj
    · rw [d72, d73, D 55 (by decide)]
      by_cases ej : j = n'
      · rw [if_pos ej, if_pos ej]; exact ⟨u, c, hu, hc, rfl, rfl, he⟩
      · rw [if_neg ej, if_neg ej]; exact g6 j q1 (by omega)
    · rw [D 60 (by decide)]; exact g7 v hv
    · rw [F 79 (by decide)]; exact g8
    · rw [F 84 (by decide)]; exact g9
/-- what a unit needs -/
def NH (S : Ms) (v x : Nat) : Prop := ∃ n i, mA S 60 v = nI n ∧ n ≤ 23 ∧ i < n ∧ mA S 59 (24 * v + i) = nI x
theorem DD.need {w x n : Nat} (hw : w < nu) (hx : x < nu) (hn : nu ≤ 24) (hwx : x ≠ w) (h60 : mA S 60 w = nI n) (hn3 : n ≤ 23) (hnew : ∀ i, i < n → mA S 59 (24 * w + i) ≠ nI x) (h : DD z b nd nu M0 S0 nh no M S) :
    n ≤ 22 ∧ DD z b nd nu M0 S0 nh no (wI (wI M (z + 14) (24 * w + n) (nI x)) (z + 15) w (nI (n + 1))) (pA (pA S 59 (24 * w + n) (nI x)) 60 w (nI (n + 1))) := by
  obtain ⟨sg, v1, hU, hUP, hH, hO, hE, hN, hD, hC⟩ := h
  have n22 : n ≤ 22 := by
    obtain ⟨n', k1, k2, k3, k4⟩ := hN.1 w hw
    have en : n' = n := (nI_eq (by omega) (by omega)).mp (k1.symm.trans h60)
    subst en
    have := ph (m := 24) (n := n' + 2) (fun i => if i = n' + 1 then w else if i = n' then x else (mA S 59 (24 * w + i)).toNatClampNeg) (fun i hi => by
      by_cases e1 : i = n' + 1
      · rw [if_pos e1]; omega
      · rw [if_neg e1]
        by_cases e2 : i = n'
        · rw [if_pos e2]; omega
        · rw [if_neg e2]
          obtain ⟨v, q1, q2, q3⟩ := k3 i (by omega)
          rw [q3, nI_clamp (by omega)]; omega) (fun i j hij hj => by
      rw [if_neg (show ¬ i = n' + 1 by omega)]
      by_cases e1 : j = n' + 1
      · rw [if_pos e1]
        by_cases e2 : i = n'
        · rw [if_pos e2]; exact hwx
        · rw [if_neg e2]
          obtain ⟨v, q1, q2, q3⟩ := k3 i (by omega)
          rw [q3, nI_clamp (by omega)]; exact q2
      · rw [if_neg e1, if_neg (show ¬ i = n' by omega)]
        obtain ⟨v, q1, q2, q3⟩ := k3 i (by omega)
        rw [q3, nI_clamp (by omega)]
        by_cases e2 : j = n'
        · rw [if_pos e2]
          intro q
          exact hnew i (by omega) (by rw [q3, q])
        · rw [if_neg e2]
          obtain ⟨v2, p1, p2, p3⟩ := k3 j (by omega)
          rw [p3, nI_clamp (by omega)]
          intro q
          exact k4 i j hij (by omega) (by rw [q3, p3, q]))
    omega
  refine ⟨n22, ?_⟩
  have C : ∀ a, a ≠ z + 14 ∧ a ≠ z + 15 → cI (wI (wI M (z + 14) (24 * w + n) (nI x)) (z + 15) w (nI (n + 1))) a = cI M a := fun a ha => by rw [cI_wI_ne _ _ _ ha.2, cI_wI_ne _ _ _ ha.1]
  have D : ∀ k, k ≠ 59 ∧ k ≠ 60 → mA (pA (pA S 59 (24 * w + n) (nI x)) 60 w (nI (n + 1))) k = mA S k := fun k hk => by rw [mA_Ane _ _ _ hk.2, mA_Ane _ _ _ hk.1]
  have c14 : ∀ j, cI (wI (wI M (z + 14) (24 * w + n) (nI x)) (z + 15) w (nI (n + 1))) (z + 14) j = if j = 24 * w + n then nI x else cI M (z + 14) j := fun j => by rw [cI_wI_ne _ _ _ (by omega), cI_w]; simp
  have c15 : ∀ j, cI (wI (wI M (z + 14) (24 * w + n) (nI x)) (z + 15) w (nI (n + 1))) (z + 15) j = if j = w then nI (n + 1) else cI M (z + 15) j := fun j => by rw [cI_w, cI_wI_ne _ _ _ (by omega)]; simp
  have d59 : ∀ j, mA (pA (pA S 59 (24 * w + n) (nI x)) 60 w (nI (n + 1))) 59 j = if j = 24 * w + n then nI x else mA S 59 j := fun j => by rw [mA_Ane _ _ _ (by decide), mA_A]; simp
  have d60 : ∀ j, mA (pA (pA S 59 (24 * w + n) (nI x)) 60 w (nI (n + 1))) 60 j = if j = w then nI (n + 1) else mA S 60 j := fun j => by rw [mA_A, mA_Ane _ _ _ (by decide)]; simp
  refine ⟨(((sg.wI (by unfold stA; omega)).wI (by unfold stA; omega)).pA (by unfold stR; omega)).pA (by unfold stR; omega), v1.ag (by rw [C _ (by omega)]) rfl, hU.ag (by rw [C _ (by omega)]) (C _ (by omega)) rfl ⟨D _ (by decide), D _ (by decide), D _ (by decide)⟩, hUP.ag (by rfl) (fun k hk => D k (by omega)), hH.ag (by rw [C _ (by omega)]) (C _ (by omega)) rfl ⟨D _ (by decide), D _ (by decide), D _ (by decide)⟩, hO.ag (by rw [C _ (by omega)]) (C _ (by omega)) rfl ⟨D _ (by decide), D _ (by decide), D _ (by decide), D _ (by decide)⟩, fun u hu => ?_, ⟨fun u hu => ?_, ?_⟩, hD.ag ⟨C _ (by omega), C _ (by omega)⟩ ⟨D _ (by decide), D _ (by decide)⟩, hC.ag (C _ (by omega)) ⟨D _ (by decide), D _ (by decide), D _ (by decide), D _ (by decide)⟩⟩
  · obtain ⟨b1, b2, b3, b4, b5, b6, ⟨m, b71, b72, b73, b74⟩, b8, b9⟩ := hE u hu
    unfold RE1
    rw [C (z + 9) (by omega), C (z + 10) (by omega), C (z + 12) (by omega), C (z + 13) (by omega), D 54 (by decide), D 55 (by decide), D 57 (by decide), D 58 (by decide)]
    refine ⟨b1, b2, b3, b4, b5, b6, ?_, b8, b9⟩
    by_cases e : u = w
    · subst e
      have em : m = n := (nI_eq (by omega) (by omega)).mp (b73.symm.trans h60)
      subst em
      refine ⟨m + 1, by omega, by rw [c15, if_pos rfl], by rw [d60, if_pos rfl], fun i hi => ?_⟩
      rw [c14, d59]
      by_cases ei : i = m
      · rw [if_pos (by omega), if_pos (by omega)]
      · rw [if_neg (by omega), if_neg (by omega)]; exact b74 i (by omega)
    · refine ⟨m, b71, by rw [c15, if_neg e]; exact b72, by rw [d60, if_neg e]; exact b73, fun i hi => ?_⟩
      rw [c14, d59, if_neg (by omega), if_neg (by omega)]; exact b74 i hi
  · obtain ⟨m, k1, k2, k3, k4⟩ := hN.1 u hu
    by_cases e : u = w
    · subst e
      have em : m = n := (nI_eq (by omega) (by omega)).mp (k1.symm.trans h60)
      subst em
      refine ⟨m + 1, by rw [d60, if_pos rfl], by omega, fun i hi => ?_, fun i j hij hj => ?_⟩
      · rw [d59]
        by_cases ei : i = m
        · rw [if_pos (by omega)]; exact ⟨x, hx, hwx, rfl⟩
        · rw [if_neg (by omega)]; exact k3 i (by omega)
      · rw [d59, d59, if_neg (by omega)]
        by_cases ej : j = m
        · rw [if_pos (by omega)]; exact hnew i (by omega)
        · rw [if_neg (by omega)]; exact k4 i j hij (by omega)
    · refine ⟨m, by rw [d60, if_neg e]; exact k1, k2, fun i hi => ?_, fun i j hij hj => ?_⟩
      · rw [d59, if_neg (by omega)]; exact k3 i hi
      · rw [d59, d59, if_neg (by omega), if_neg (by omega)]; exact k4 i j hij hj
  · obtain ⟨g1, g7, g8, g9⟩ := hN.2
    refine ⟨?_, fun v hv => ?_, g8, g9⟩
    · rw [D 72 (by decide), D 73 (by decide), D 55 (by decide)]; exact g1
    · obtain ⟨m0, m, x1, x2, x3, x4⟩ := g7 v hv
      rw [d60]
      by_cases e : v = w
      · subst e
        have em : m = n := (nI_eq (by omega) (by omega)).mp (x2.symm.trans h60)
        rw [if_pos rfl]
        exact ⟨m0, n + 1, x1, rfl, by omega, by omega⟩
      · rw [if_neg e]; exact ⟨m0, m, x1, x2, x3, x4⟩
end DATA
