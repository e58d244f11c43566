/-! runs: what stands still while one goes on, and what both keep alike -/
def stA (z a : Nat) : Prop := a ≤ z + 8 ∨ a = z + 10 ∨ a = z + 16 ∨ a = z + 17 ∨ (z + 19 ≤ a ∧ a ≤ z + 29) ∨ a = z + 34 ∨ z + 88 ≤ a
def stF (k : Nat) : Prop := k ≤ 64 ∨ k = 66 ∨ k = 71 ∨ k = 87 ∨ k = 88 ∨ k = 89 ∨ 100 ≤ k
def stR (k : Nat) : Prop := k ≤ 53 ∨ k = 55 ∨ k = 61 ∨ (63 ≤ k ∧ k ≤ 71) ∨ k = 85 ∨ k = 86 ∨ 100 ≤ k
def SAg (z : Nat) (M0 M : Cm) (S0 S : Ms) : Prop := (∀ a, stA z a → cI M a = cI M0 a) ∧ cI M (z + 30) 7 = cI M0 (z + 30) 7 ∧ cL M = cL M0 ∧ (∀ a j, a ≠ z + 35 ∨ j ≤ 3 → cR M a j = cR M0 a j) ∧ (∀ k, stF k → mF S k = mF S0 k) ∧ (∀ k, stR k → mA S k = mA S0 k) ∧ mL S = mL S0
def V1 (z : Nat) (M : Cm) (S : Ms) : Prop := ∃ s, s ≤ 100000 ∧ cI M (z + 35) 11 = nI s ∧ mF S 65 = nI s
def RH1 (z : Nat) (M : Cm) (S : Ms) (n : Nat) : Prop := n ≤ 1000000000 ∧ cI M (z + 30) 5 = nI n ∧ mF S 79 = nI n ∧ ∀ j, j < n → j < 200 → cI M (z + 32) (j * 3) = mA S 76 j ∧ cI M (z + 32) (j * 3 + 1) = mA S 77 j ∧ cI M (z + 32) (j * 3 + 2) = mA S 78 j
def RO1 (z : Nat) (M : Cm) (S : Ms) (n : Nat) : Prop := n ≤ 1000000000 ∧ cI M (z + 30) 6 = nI n ∧ mF S 84 = nI n ∧ ∀ j, j < n → j < 200 → cI M (z + 33) (j * 4) = mA S 80 j ∧ cI M (z + 33) (j * 4 + 1) = mA S 81 j ∧ cI M (z + 33) (j * 4 + 2) = mA S 82 j ∧ cI M (z + 33) (j * 4 + 3) = mA S 83 j ∧ (mA S 83 j = 0 ∨ mA S 83 j = 1)
/-- the statics' numbers -/
def CEL (z b nu : Nat) (M : Cm) (S : Ms) : Prop := ∀ u s r, u < nu → SLs S b u s 0 → r < 8 → mA S 29 (sl8 b u s) = nI r → cI M (z + 11) (8 * u + r) = mA S 56 (8 * u + s)
/-- what came up, was needed and noted since the run's start stands behind what was there -/
def GRW (nu : Nat) (S0 S : Ms) : Prop := (∃ n0 n, mF S0 75 = nI n0 ∧ mF S 75 = nI n ∧ n0 ≤ n ∧ n ≤ 744 ∧ (∀ j, j < n0 → mA S 72 j = mA S0 72 j ∧ mA S 73 j = mA S0 73 j) ∧ ∀ j, n0 ≤ j → j < n → ∃ u c, u < nu ∧ c ≤ 30 ∧ mA S 72 j = nI u ∧ mA S 73 j = nI c ∧ mA S 55 u = nI c) ∧ (∀ u, u < 24 → ∃ m0 m, mA S0 60 u = nI m0 ∧ mA S 60 u = nI m ∧ m0 ≤ m ∧ m ≤ 23) ∧
  (∃ a a', mF S0 79 = nI a ∧ mF S 79 = nI a' ∧ a ≤ a' ∧ a' ≤ 1000000000) ∧ ∃ a a', mF S0 84 = nI a ∧ mF S 84 = nI a' ∧ a ≤ a' ∧ a' ≤ 1000000000
theorem GRW.f2 {nu : Nat} {S0 S S' : Ms} (h75 : mF S' 75 = mF S 75) (hA : ∀ k, k = 55 ∨ k = 60 ∨ k = 72 ∨ k = 73 → mA S' k = mA S k) (h79 : ∀ a, mF S 79 = nI a → a ≤ 1000000000 → ∃ a', mF S' 79 = nI a' ∧ a ≤ a' ∧ a' ≤ 1000000000) (h84 : ∀ a, mF S 84 = nI a → a ≤ 1000000000 → ∃ a', mF S' 84 = nI a' ∧ a ≤ a' ∧ a' ≤ 1000000000) (h : GRW nu S0 S) : GRW nu S0 S' := by
  obtain ⟨h1, h2, ⟨a, a', x1, x2, x3, x4⟩, ⟨c, c', y1, y2, y3, y4⟩⟩ := h
  obtain ⟨a2, x5, x6, x7⟩ := h79 a' x2 x4
  obtain ⟨c2, y5, y6, y7⟩ := h84 c' y2 y4
  refine ⟨?_, ?_, ⟨a, a2, x1, x5, by omega, x7⟩, ⟨c, c2, y1, y5, by omega, y7⟩⟩
  · rw [h75, hA 72 (by omega), hA 73 (by omega), hA 55 (by omega)]; exact h1
  · rw [hA 60 (by omega)]; exact h2
theorem GRW.ag {nu : Nat} {S0 S S' : Ms} (hF : ∀ k, k = 75 ∨ k = 79 ∨ k = 84 → mF S' k = mF S k) (hA : ∀ k, k = 55 ∨ k = 60 ∨ k = 72 ∨ k = 73 → mA S' k = mA S k) (h : GRW nu S0 S) : GRW nu S0 S' :=
  h.f2 (hF 75 (by omega)) hA (fun a e q => ⟨a, (hF 79 (by omega)).trans e, Nat.le_refl _, q⟩) (fun a e q => ⟨a, (hF 84 (by omega)).trans e, Nat.le_refl _, q⟩)
def NDG (nu : Nat) (S0 S : Ms) : Prop := NDI nu S ∧ GRW nu S0 S
theorem NDG.ag {nu : Nat} {S0 S S' : Ms} (hF : ∀ k, k = 75 ∨ k = 79 ∨ k = 84 → mF S' k = mF S k) (hA : ∀ k, k = 55 ∨ k = 59 ∨ k = 60 ∨ k = 72 ∨ k = 73 → mA S' k = mA S k) (h : NDG nu S0 S) : NDG nu S0 S' :=
  ⟨h.1.ag (fun k hk => hA k (by omega)), h.2.ag hF (fun k hk => hA k (by omega))⟩
def DD (z b nd nu : Nat) (M0 : Cm) (S0 : Ms) (nh no : Nat) (M : Cm) (S : Ms) : Prop := SAg z M0 M S0 S ∧ V1 z M S ∧ RU z M S ∧ UPI nu S ∧ RH1 z M S nh ∧ RO1 z M S no ∧ RE z M S nu ∧ NDG nu S0 S ∧ RD z M S nd ∧ CEL z b nu M S
theorem SAg.rf (z : Nat) (M : Cm) (S : Ms) : SAg z M M S S := ⟨fun _ _ => rfl, rfl, rfl, fun _ _ _ => rfl, fun _ _ => rfl, fun _ _ => rfl, rfl⟩
theorem SAg.tr {z : Nat} {M0 M M' : Cm} {S0 S S' : Ms} (h : SAg z M0 M S0 S) (q : SAg z M M' S S') : SAg z M0 M' S0 S' :=
  ⟨fun a ha => (q.1 a ha).trans (h.1 a ha), q.2.1.trans h.2.1, q.2.2.1.trans h.2.2.1, fun a j ha => (q.2.2.2.1 a j ha).trans (h.2.2.2.1 a j ha), fun k hk => (q.2.2.2.2.1 k hk).trans (h.2.2.2.2.1 k hk), fun k hk => (q.2.2.2.2.2.1 k hk).trans (h.2.2.2.2.2.1 k hk), q.2.2.2.2.2.2.trans h.2.2.2.2.2.2⟩
theorem lyR_35 : ∀ t ∈ lyR, t.1 ≠ 35 ∨ t.2.1 ≤ 3 := by decide
section RUN0
variable {z b st nd nu nm nh no : Nat} {K : Ka} {M0 M M' : Cm} {S0 S S' : Ms}
theorem DD.start (h : RelP z K M S b st nd nu nm) (hu : UPI nu S) (hn : NDI nu S) : ∃ nh no, mF S 79 = nI nh ∧ mF S 84 = nI no ∧ nh ≤ 1000000000 ∧ no ≤ 1000000000 ∧ DD z b nd nu M S nh no M S := by
  obtain ⟨h1, h2, h3, h4, h5, h6, ⟨n, s, a1, a2, a3, a4, a5, a6⟩, ⟨n', s', b1, b2, b3, b4, b5, b6⟩, h9, h10, h11, h12, h13, h14, ⟨q4, q5, q6, -, -, -, q, -⟩, h16, h17, h18⟩ := h
  refine ⟨n, n', a5, b5, a1, b1, SAg.rf z M S, ⟨s, a2, h2.2.2.2.2.2.2.trans a3, a3⟩, h6, hu, ⟨a1, a4, a5, a6⟩, ⟨b1, b4, b5, b6⟩, h11, ⟨hn, ⟨by obtain ⟨m, w1, w2, -⟩ := hu; exact ⟨m, m, w1, w1, Nat.le_refl _, w2, fun _ _ => ⟨rfl, rfl⟩, fun j q1 q2 => absurd q2 (Nat.not_lt.mpr q1)⟩, fun u hu' => by obtain ⟨-, -, -, -, -, -, ⟨m, w2, -, w1, -⟩, -⟩ := h11 u hu'; exact ⟨m, m, w1, w1, Nat.le_refl _, w2⟩, ⟨n, n, a5, a5, Nat.le_refl _, a1⟩, ⟨n', n', b5, b5, Nat.le_refl _, b1⟩⟩⟩, h12, fun u s r u1 u2 u3 u4 => ?_⟩
  obtain ⟨-, tu, -, -, -, -, -, -, -, -, -, ni, ns, c1, c2, -, c4, -, -, -, -, -, c10⟩ := q u u1
  obtain ⟨⟨ni', d1, d2, d3⟩, d4⟩ := u2
  have e : ni' = ni := (nI_eq (by omega) (by omega)).mp (d2.symm.trans c4)
  obtain ⟨r', e1, e2, e3⟩ := c10 s (by omega) d4
  have er : r = r' := (nI_eq (by omega) (by omega)).mp (u4.symm.trans e2)
  rw [er]
  exact e3
theorem DD.rel (h0 : RelP z K M0 S0 b st nd nu nm) (h : DD z b nd nu M0 S0 nh no M S) : RelP z K M S b st nd nu nm := by
  obtain ⟨⟨s1, s2, s3, s4, s5, s6, s7⟩, ⟨s, v1, v2, v3⟩, hU, -, hH, hO, hE, -, hD, hC⟩ := h
  obtain ⟨⟨l1, l2, l3, l4⟩, h2, h3, h4, h5, h6, h7, h8, h9, h10, h11, h12, h13, h14, h15, h16, h17, h18⟩ := h0
  have F : ∀ k, stF k → mF S k = mF S0 k := s5
  have A : ∀ k, stR k → mA S k = mA S0 k := s6
  have g1 := h13.2.2.2.1
  have R : ∀ a, z + 89 ≤ a → cR M a = cR M0 a := fun a ha => by funext j; exact s4 a j (by omega)
  have I : ∀ a, z + 89 ≤ a → cI M a = cI M0 a := fun a ha => s1 a (by unfold stA; omega)
  have rw1' : ∀ {sl kind m a}, rw1 z K M0 st sl kind m a → rw1 z K M st sl kind m a := fun {sl kind m a} q => by
    unfold rw1 at q ⊢
    rw [R st g1.1]
    exact q
  refine ⟨⟨l1, fun t ht => ?_, fun k hk => ?_, l4⟩, ?_, ?_, ?_, ?_, hU, ?_, ?_, ?_, ?_, hE, hD, ?_, ?_, ?_, ?_, ?_, h18⟩
  · have := lyR_35 t ht
    rw [s4 _ _ (by omega)]
    exact l2 t ht
  · rw [s4 _ _ (by omega), s4 _ _ (by omega)]
    exact l3 k hk
  · obtain ⟨r1, r2, r3, r4, r5, r6, r7⟩ := h2
    refine ⟨?_, ?_, ?_, ?_, ?_, ?_, v2.trans v3.symm⟩
    · rw [s1 _ (by unfold stA; omega), F 63 (by unfold stF; omega)]; exact r1
    · rw [s1 _ (by unfold stA; omega), F 88 (by unfold stF; omega)]; exact r2
    · rw [s1 _ (by unfold stA; omega), F 89 (by unfold stF; omega)]; exact r3
    · rw [s1 _ (by unfold stA; omega), F 66 (by unfold stF; omega)]; exact r4
    · rw [s1 _ (by unfold stA; omega), F 64 (by unfold stF; omega)]; exact r5
    · rw [F 64 (by unfold stF; omega)]; exact r6
  · unfold RT
    rw [s1 _ (by unfold stA; omega), s1 _ (by unfold stA; omega), F 2 (by unfold stF; omega), A 1 (by unfold stR; omega)]
    exact h3
  · unfold RK
    rw [s3, s7]
    exact h4
  · unfold RF
    rw [s1 _ (by unfold stA; omega), s1 _ (by unfold stA; omega), F 101 (by unfold stF; omega), A 100 (by unfold stR; omega)]
    exact h5
  · exact ⟨nh, s, hH.1, v1, v3, hH.2.1, hH.2.2.1, hH.2.2.2⟩
  · exact ⟨no, s, hO.1, v1, v3, hO.2.1, hO.2.2.1, hO.2.2.2⟩
  · unfold RZ
    rw [s2, s1 _ (by unfold stA; omega), F 87 (by unfold stF; omega), A 85 (by unfold stR; omega), A 86 (by unfold stR; omega)]
    exact h9
  · unfold RP
    rw [s1 _ (by unfold stA; omega), s1 _ (by unfold stA; omega), F 71 (by unfold stF; omega), A 69 (by unfold stR; omega), A 70 (by unfold stR; omega)]
    exact h10
  · unfold SA
    rw [s4 z 7 (by omega), I st g1.1, F 11 (by unfold stF; omega), A 13 (by unfold stR; omega), A 18 (by unfold stR; omega), A 35 (by unfold stR; omega)]
    exact h13
  · obtain ⟨a0, a1, a2, a3, q0, q1, q2, q3, q⟩ := h14
    refine ⟨a0, a1, a2, a3, rw1' q0, rw1' q1, rw1' q2, rw1' q3, ?_⟩
    rw [s3, s7, I a1 q1.2.1.1, I a2 q2.2.1.1, I a3 q3.2.1.1, A 15 (by unfold stR; omega), A 16 (by unfold stR; omega), A 17 (by unfold stR; omega)]
    exact q
  · obtain ⟨a4, a5, a6, q4, q5, q6, q, qq⟩ := h15
    refine ⟨a4, a5, a6, rw1' q4, rw1' q5, rw1' q6, fun u hu => ?_, ?_⟩
    · obtain ⟨e, tu, t1, t2⟩ := q u hu
      refine ⟨by rw [s3, s7]; exact e, tu, by rw [R a5 q5.2.1.1]; exact t1, ?_⟩
      obtain ⟨w1, w2, w3, w4, w5, w6, w7, w8, ni, ns, x1, x2, x3, x4, x5, x6, x7, x8, x9, x10⟩ := t2
      rw [← I tu w1.1] at w3 w5 w7 w8 x3 x5
      rw [← A 20 (by unfold stR; omega)] at w3 w4
      rw [← A 21 (by unfold stR; omega)] at w5 w6
      rw [← A 22 (by unfold stR; omega)] at w7
      rw [← A 23 (by unfold stR; omega)] at w8
      rw [← A 25 (by unfold stR; omega)] at x4
      rw [← A 31 (by unfold stR; omega)] at x6
      rw [← A 30 (by unfold stR; omega)] at x7
      rw [← A 27 (by unfold stR; omega), ← A 29 (by unfold stR; omega)] at x8
      rw [← A 27 (by unfold stR; omega)] at x9
      refine ⟨w1, w2, w3, w4, w5, w6, w7, w8, ni, ns, x1, x2, x3, x4, x5, x6, x7, x8, x9, fun s hs hz => ?_⟩
      obtain ⟨r, y1, y2, y3⟩ := x10 s hs (by rw [← A 27 (by unfold stR; omega)]; exact hz)
      rw [← A 29 (by unfold stR; omega)] at y2
      exact ⟨r, y1, y2, hC u s r hu ⟨⟨ni, x2, x4, hs⟩, hz⟩ (by omega) y2⟩
    · rw [I a6 q6.2.1.1, A 34 (by unfold stR; omega)]
      exact qq
  · obtain ⟨a7, a8, q7, q8, q⟩ := h16
    refine ⟨a7, a8, rw1' q7, rw1' q8, ?_⟩
    rw [s3, s7]
    exact q
  · unfold SC NM1
    rw [s7]
    exact h17
/-- only the machine's own cells and fields change -/
def MCH (z : Nat) (M M' : Cm) (S S' : Ms) : Prop := (∀ a, a ≠ z + 35 → ¬ (z + 37 ≤ a ∧ a ≤ z + 87) → cI M' a = cI M a) ∧ cI M' (z + 35) 11 = cI M (z + 35) 11 ∧ cL M' = cL M ∧ (∀ a j, a ≠ z + 35 ∨ j ≤ 3 → cR M' a j = cR M a j) ∧ (∀ k, ¬ (k = 67 ∨ k = 68 ∨ (90 ≤ k ∧ k ≤ 99)) → mF S' k = mF S k) ∧ (∀ k, k ≠ 93 → k ≠ 94 → k ≠ 96 → mA S' k = mA S k) ∧ mL S' = mL S
theorem MCH.rf (z : Nat) (M : Cm) (S : Ms) : MCH z M M S S := ⟨fun _ _ _ => rfl, rfl, rfl, fun _ _ _ => rfl, fun _ _ => rfl, fun _ _ _ _ => rfl, rfl⟩
theorem MCH.tr {M'' : Cm} {S'' : Ms} (h : MCH z M M' S S') (q : MCH z M' M'' S' S'') : MCH z M M'' S S'' :=
  ⟨fun a ha hb => (q.1 a ha hb).trans (h.1 a ha hb), q.2.1.trans h.2.1, q.2.2.1.trans h.2.2.1, fun a j ha => (q.2.2.2.1 a j ha).trans (h.2.2.2.1 a j ha), fun k hk => (q.2.2.2.2.1 k hk).trans (h.2.2.2.2.1 k hk), fun k h1 h2 h3 => (q.2.2.2.2.2.1 k h1 h2 h3).trans (h.2.2.2.2.2.1 k h1 h2 h3), q.2.2.2.2.2.2.trans h.2.2.2.2.2.2⟩
theorem MCH.wI {a k : Nat} {v : Int32} (ha : (a = z + 35 ∧ k ≠ 11) ∨ (z + 37 ≤ a ∧ a ≤ z + 87)) (h : MCH z M M' S S') : MCH z M (wI M' a k v) S S' := by
  refine ⟨fun x hx hy => ?_, ?_, h.2.2.1, h.2.2.2.1, h.2.2.2.2.1, h.2.2.2.2.2.1, h.2.2.2.2.2.2⟩
  · rw [cI_wI_ne _ _ _ (by omega)]; exact h.1 x hx hy
  · rw [cI_w, if_neg (by omega)]; exact h.2.1
theorem MCH.wR {k : Nat} {v : Option Nat} (hk : 4 ≤ k) (h : MCH z M M' S S') : MCH z M (wR M' (z + 35) k v) S S' := by
  refine ⟨h.1, h.2.1, h.2.2.1, fun a j ha => ?_, h.2.2.2.2.1, h.2.2.2.2.2.1, h.2.2.2.2.2.2⟩
  rw [cR_w, if_neg (by omega)]; exact h.2.2.2.1 a j ha
theorem MCH.pF {k : Nat} {v : Int32} (hk : k = 67 ∨ k = 68 ∨ (90 ≤ k ∧ k ≤ 99)) (h : MCH z M M' S S') : MCH z M M' S (pF S' k v) := by
  refine ⟨h.1, h.2.1, h.2.2.1, h.2.2.2.1, fun x hx => ?_, h.2.2.2.2.2.1, h.2.2.2.2.2.2⟩
  rw [mF_F, if_neg (by omega)]; exact h.2.2.2.2.1 x hx
theorem MCH.pA {k i : Nat} {v : Int32} (hk : k = 93 ∨ k = 94 ∨ k = 96) (h : MCH z M M' S S') : MCH z M M' S (pA S' k i v) := by
  refine ⟨h.1, h.2.1, h.2.2.1, h.2.2.2.1, h.2.2.2.2.1, fun x h1 h2 h3 => ?_, h.2.2.2.2.2.2⟩
  rw [mA_Ane _ _ _ (by omega)]; exact h.2.2.2.2.2.1 x h1 h2 h3
theorem DD.mach (h : DD z b nd nu M0 S0 nh no M S) (q : MCH z M M' S S') : DD z b nd nu M0 S0 nh no M' S' := by
  obtain ⟨q1, q2, q3, q4, q5, q6, q7⟩ := q
  have F : ∀ k, ¬ (k = 67 ∨ k = 68 ∨ (90 ≤ k ∧ k ≤ 99)) → mF S' k = mF S k := q5
  have A : ∀ k, k ≠ 93 → k ≠ 94 → k ≠ 96 → mA S' k = mA S k := q6
  obtain ⟨sg, v1, hU, hUP, hH, hO, hE, hN, hD, hC⟩ := h
  refine ⟨sg.tr ⟨fun a ha => q1 a (by unfold stA at ha; omega) (by unfold stA at ha; omega), by rw [q1 _ (by omega) (by omega)], q3, q4, fun k hk => F k (by unfold stF at hk; omega), fun k hk => A k (by unfold stR at hk; omega) (by unfold stR at hk; omega) (by unfold stR at hk; omega), q7⟩, ?_, ?_, ?_, ?_, ?_, ?_, ?_, ?_, ?_⟩
  · unfold V1 at v1 ⊢
    rw [q2, F 65 (by omega)]; exact v1
  · unfold RU at hU ⊢
    rw [q1 _ (by omega) (by omega), q1 _ (by omega) (by omega), F 75 (by omega), A 72 (by omega) (by omega) (by omega), A 73 (by omega) (by omega) (by omega), A 74 (by omega) (by omega) (by omega)]; exact hU
  · exact hUP.ag (F 75 (by omega)) (fun k hk => A k (by omega) (by omega) (by omega))
  · unfold RH1 at hH ⊢
    rw [q1 _ (by omega) (by omega), q1 _ (by omega) (by omega), F 79 (by omega), A 76 (by omega) (by omega) (by omega), A 77 (by omega) (by omega) (by omega), A 78 (by omega) (by omega) (by omega)]; exact hH
  · unfold RO1 at hO ⊢
    rw [q1 _ (by omega) (by omega), q1 _ (by omega) (by omega), F 84 (by omega), A 80 (by omega) (by omega) (by omega), A 81 (by omega) (by omega) (by omega), A 82 (by omega) (by omega) (by omega), A 83 (by omega) (by omega) (by omega)]; exact hO
  · unfold RE RE1 at hE ⊢
    rw [q1 (z + 9) (by omega) (by omega), q1 (z + 10) (by omega) (by omega), q1 (z + 12) (by omega) (by omega), q1 (z + 13) (by omega) (by omega), q1 (z + 14) (by omega) (by omega), q1 (z + 15) (by omega) (by omega), A 54 (by omega) (by omega) (by omega), A 55 (by omega) (by omega) (by omega), A 57 (by omega) (by omega) (by omega), A 58 (by omega) (by omega) (by omega), A 59 (by omega) (by omega) (by omega), A 60 (by omega) (by omega) (by omega)]; exact hE
  · exact hN.ag (fun k hk => F k (by omega)) (fun k hk => A k (by omega) (by omega) (by omega))
  · unfold RD at hD ⊢
    rw [q1 (z + 17) (by omega) (by omega), q1 (z + 18) (by omega) (by omega), A 61 (by omega) (by omega) (by omega), A 62 (by omega) (by omega) (by omega)]; exact hD
  · unfold CEL SLs at hC ⊢
    rw [q1 (z + 11) (by omega) (by omega), A 25 (by omega) (by omega) (by omega), A 27 (by omega) (by omega) (by omega), A 29 (by omega) (by omega) (by omega), A 56 (by omega) (by omega) (by omega)]; exact hC
end RUN0
