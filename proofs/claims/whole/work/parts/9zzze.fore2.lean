/-! foresee as a whole -/
section FORE2
variable {z b st nd nu nm lim nh no c B0 N m : Nat} {K : Ka} {M M' M2 Mf Ma : Cm} {S S' S2 Ss Sa Sf : Ms}
theorem fsr_lp {n : Nat} (hn : n ≤ 744) (kC : Nat → Int32 → Int32 → Int32 → Cm → Option (Int32 × Cm)) (kM : Int32 → Int32 → Int32 → Ms → Option (Int32 × Ms)) (a3 a4 a5 c3 c4 c5 : Int32) : ∀ (d i f f' k : Nat) (M : Cm) (S : Ms), i + d = n → d < f → d < f' → k + d ≤ 24 → LY z K M → cI M (z + 30) 4 = nI n → mF S 75 = nI n → (∀ j, j < n → cI M (z + 31) (j * 3) = mA S 72 j) → cI M z 8 = nI k → mF S 101 = nI k → (∀ j, j < k → cI M (z + 88) j = mA S 100 j) →
    ∃ k' M' S', lC_X8_foresee_76 N K kC f z a3 a4 a5 (nI i) M = kC z a3 a4 a5 M' ∧ lM_foresee_61 N kM f' c3 c4 c5 (nI i) S = kM c3 c4 c5 S' ∧ (k' ≤ 24 ∧ cI M' z 8 = nI k' ∧ mF S' 101 = nI k' ∧ ∀ j, j < k' → cI M' (z + 88) j = mA S' 100 j) ∧ (∀ a, a ≠ z → a ≠ z + 88 → cI M' a = cI M a) ∧ (∀ s, s ≠ 8 → cI M' z s = cI M z s) ∧ cL M' = cL M ∧ cR M' = cR M ∧ (∀ q, q ≠ 101 → mF S' q = mF S q) ∧ (∀ q, q ≠ 100 → mA S' q = mA S q) ∧ mL S' = mL S := by
  intro d
  induction d with
  | zero =>
    intro i f f' k M S h1 h2 h3 h4 hL h5 h6 h7 h8 h9 h10
    obtain ⟨f, rfl⟩ : ∃ x, f = x + 1 := ⟨f - 1, by omega⟩
    obtain ⟨f', rfl⟩ : ∃ x, f' = x + 1 := ⟨f' - 1, by omega⟩
    have e : i = n := by omega
    subst e
    refine ⟨k, M, S, ?_, ?_, ⟨by omega, h8, h9, h10⟩, fun _ _ _ => rfl, fun _ _ => rfl, rfl, rfl, fun _ _ => rfl, fun _ _ => rfl, rfl⟩
    · rw [lC_X8_foresee_76, gd_k hL.k9, nn_s (hL.r0 4 30 (by decide)), gd_k (hL.k 30 1 0 rfl), h5, if_pos (Int32.le_refl _)]
    · rw [lM_foresee_61, h6, if_pos (Int32.le_refl _)]
  | succ d ih =>
    intro i f f' k M S h1 h2 h3 h4 hL h5 h6 h7 h8 h9 h10
    obtain ⟨f, rfl⟩ : ∃ x, f = x + 1 := ⟨f - 1, by omega⟩
    obtain ⟨f', rfl⟩ : ∃ x, f' = x + 1 := ⟨f' - 1, by omega⟩
    have hL1 : LY z K (wI (wI M (z + 88) k (cI M (z + 31) (i * 3))) z 8 (nI (k + 1))) := hL
    have hc : lC_X8_foresee_76 N K kC (f + 1) z a3 a4 a5 (nI i) M = lC_X8_foresee_76 N K kC f z a3 a4 a5 (nI (i + 1)) (wI (wI M (z + 88) k (cI M (z + 31) (i * 3))) z 8 (nI (k + 1))) := by
      rw [lC_X8_foresee_76, gd_k hL.k9, nn_s (hL.r0 4 30 (by decide)), gd_k (hL.k 30 1 0 rfl), h5, if_neg (show ¬ nI n ≤ nI i from nI_ge (by omega) (by omega)), h8, if_neg (show ¬ (24 : Int32) ≤ nI k from nI_ge (b := 24) (by omega) (by decide)), nn_s (hL.r0 4 30 (by decide)), nn_s (hL.r0 6 88 (by decide)), gd_k (hL.k 30 1 0 rfl), c_up0 hL N h5 hn (show i < n by omega), bs]
      dsimp only
      rw [gd_k hL.2.2.2.1, hL.2.2.2.2, ck_n (show k < 24 by omega) (by decide), nI_clamp (show k < 2 ^ 31 by omega), cI_wI_ne _ _ _ (show z ≠ z + 88 by omega), h8, nI_1, nI_1]
    have hm : lM_foresee_61 N kM (f' + 1) c3 c4 c5 (nI i) S = lM_foresee_61 N kM f' c3 c4 c5 (nI (i + 1)) (pF (pA S 100 k (mA S 72 i)) 101 (nI (k + 1))) := by
      rw [lM_foresee_61, h6, if_neg (show ¬ nI n ≤ nI i from nI_ge (by omega) (by omega)), h9, ck_n (show i < 800 by omega) (by decide), ck_n (show k < 24 by omega) (by decide), nI_clamp (show i < 2 ^ 31 by omega), nI_clamp (show k < 2 ^ 31 by omega), mF_A, h9, nI_1, nI_1]
    obtain ⟨k', M', S', x1, x2, x3, x4, x5, x6, x7, x8, x9, x10⟩ := ih (i + 1) f f' (k + 1) _ (pF (pA S 100 k (mA S 72 i)) 101 (nI (k + 1))) (by omega) (by omega) (by omega) (by omega) hL1 (by rw [cI_wI_ne _ _ _ (by omega), cI_wI_ne _ _ _ (by omega)]; exact h5) (by rw [mF_F, if_neg (by decide)]; exact h6) (fun j hj => by rw [cI_wI_ne _ _ _ (by omega), cI_wI_ne _ _ _ (by omega), mA_F, mA_Ane _ _ _ (by decide)]; exact h7 j hj) (by rw [cI_w, if_pos ⟨rfl, rfl⟩]) (by rw [mF_F, if_pos rfl]) (fun j hj => by
      rw [cI_wI_ne _ _ _ (show z + 88 ≠ z by omega), cI_w, mA_F, mA_A]
      by_cases e : j = k
      · rw [if_pos ⟨rfl, e⟩, if_pos ⟨rfl, e⟩]; exact h7 i (by omega)
      · rw [if_neg (fun w => e w.2), if_neg (fun w => e w.2)]; exact h10 j (by omega))
    refine ⟨k', M', S', hc.trans x1, hm.trans x2, x3, fun a a1 a2 => ?_, fun s hs => ?_, x6, x7, fun q hq => ?_, fun q hq => ?_, x10⟩
    · rw [x4 a a1 a2, cI_wI_ne _ _ _ a1, cI_wI_ne _ _ _ a2]
    · rw [x5 s hs, cI_w, if_neg (fun w => hs w.2), cI_wI_ne _ _ _ (by omega)]
    · rw [x8 q hq, mF_F, if_neg hq]; rfl
    · rw [x9 q hq, mA_F, mA_Ane _ _ _ hq]
/-- how many came up in one run -/
theorem ups_24 (hn : nu ≤ 24) {n0 n : Nat} (u : UPI nu S') (g : GRW nu S S') (h0 : mF S 75 = nI n0) (h07 : n0 ≤ 744) (h1 : mF S' 75 = nI n) (h17 : n ≤ 744) : n0 ≤ n ∧ n - n0 ≤ 24 := by
  obtain ⟨⟨m0, m, g1, g2, g3, g4, g5, g6⟩, -⟩ := g
  have e0 : m0 = n0 := (nI_eq (by omega) (by omega)).mp (g1.symm.trans h0)
  have e1 : m = n := (nI_eq (by omega) (by omega)).mp (g2.symm.trans h1)
  subst e0
  subst e1
  obtain ⟨m', a1, a2, a3, a4, a5⟩ := u
  have e2 : m' = m := (nI_eq (by omega) (by omega)).mp (a1.symm.trans h1)
  subst e2
  refine ⟨g3, ?_⟩
  refine ph (fun i => (mA S' 72 (m0 + i)).toNatClampNeg) (fun i hi => ?_) (fun i j hij hj => ?_)
  · obtain ⟨x, e, x1, x2, x3, -⟩ := g6 (m0 + i) (by omega) (by omega)
    show (mA S' 72 (m0 + i)).toNatClampNeg < 24
    rw [x3, nI_clamp (by omega)]; omega
  · obtain ⟨x, ex, x1, x2, x3, x4, x5⟩ := g6 (m0 + i) (by omega) (by omega)
    obtain ⟨y, ey, y1, y2, y3, y4, y5⟩ := g6 (m0 + j) (by omega) (by omega)
    show (mA S' 72 (m0 + i)).toNatClampNeg ≠ (mA S' 72 (m0 + j)).toNatClampNeg
    rw [x3, y3, nI_clamp (by omega), nI_clamp (by omega)]
    intro w
    subst w
    obtain ⟨p, q, r1, r2, r3, r4⟩ := a4 (m0 + i) (m0 + j) (by omega) (by omega) (x3.trans y3.symm)
    have t1 := (nI_eq (by omega) (by omega)).mp (r3.symm.trans x4)
    have t2 := (nI_eq (by omega) (by omega)).mp (r4.symm.trans y4)
    have t3 := (nI_eq (by omega) (by omega)).mp (x5.symm.trans y5)
    omega
/-- back to where it was, but for what was foreseen -/
theorem fo_rel (h : RelP z K M S b st nd nu nm) (rv : RV z b st nd nu nm K M S) (hf : RelP z K Mf Sf b st nd nu nm) (hd : SAg z M Mf S Sf) (hU : UPI nu Sf) (hN : NDI nu Sf) (g : GRW nu S Sf) (r1 : ∀ k, k = 64 ∨ k = 87 → mF Sf k = mF S k)
    {n0 h0 o0 : Nat} (n7 : n0 ≤ 744) (e75 : mF S 75 = nI n0) (e79 : mF S 79 = nI h0) (e84 : mF S 84 = nI o0) (b79 : h0 ≤ 1000000000) (b84 : o0 ≤ 1000000000)
    (CI : ∀ a, a ≠ z → a ≠ z + 9 → a ≠ z + 11 → a ≠ z + 12 → a ≠ z + 13 → a ≠ z + 15 → a ≠ z + 18 → a ≠ z + 30 → a ≠ z + 88 → cI M' a = cI Mf a) (CZ : ∀ s, s ≠ 8 → cI M' z s = cI Mf z s) (C30 : cI M' (z + 30) 4 = nI n0 ∧ cI M' (z + 30) 5 = nI h0 ∧ cI M' (z + 30) 6 = nI o0 ∧ cI M' (z + 30) 7 = cI Mf (z + 30) 7) (CL : cL M' = cL Mf) (CR : cR M' = cR Mf)
    (CB : (∀ j, j < 24 → cI M' (z + 9) j = cI M (z + 9) j) ∧ (∀ j, j < 192 → cI M' (z + 11) j = cI M (z + 11) j) ∧ (∀ j, j < 24 → cI M' (z + 12) j = cI M (z + 12) j) ∧ (∀ j, j < 24 → cI M' (z + 13) j = cI M (z + 13) j) ∧ (∀ j, j < 24 → cI M' (z + 15) j = cI M (z + 15) j) ∧ ∀ j, j < 24 → cI M' (z + 18) j = cI M (z + 18) j)
    (SF : (∀ k, k ≠ 75 → k ≠ 79 → k ≠ 84 → k ≠ 101 → mF S' k = mF Sf k) ∧ mF S' 75 = nI n0 ∧ mF S' 79 = nI h0 ∧ mF S' 84 = nI o0) (SA' : ∀ k, k ≠ 54 → k ≠ 56 → k ≠ 57 → k ≠ 58 → k ≠ 60 → k ≠ 62 → k ≠ 100 → mA S' k = mA Sf k) (SL : mL S' = mL Sf)
    (SB : (∀ j, j < 24 → mA S' 54 j = mA S 54 j ∧ mA S' 57 j = mA S 57 j ∧ mA S' 58 j = mA S 58 j ∧ mA S' 60 j = mA S 60 j ∧ mA S' 62 j = mA S 62 j) ∧ ∀ j, j < 192 → mA S' 56 j = mA S 56 j) (hF : RF z M' S') : RelP z K M' S' b st nd nu nm ∧ RV z b st nd nu nm K M' S' := by
  obtain ⟨o1, o2, o3, o4, o5, o6, o7, o8, o9, o10, o11, o12, o13, o14, o15, o16, o17, o18⟩ := hf
  obtain ⟨B9, B11, B12, B13, B15, B18⟩ := CB
  obtain ⟨F, F75, F79, F84⟩ := SF
  obtain ⟨SB1, SB2⟩ := SB
  obtain ⟨G1, G2, ⟨ga, ga', G3, G4, G5, G6⟩, ⟨gc, gc', G7, G8, G9, G10⟩⟩ := g
  obtain ⟨m0, m, ups1, ups2, ups3, ups4, ups5, ups6⟩ := G1
  have em0 : m0 = n0 := (nI_eq (by omega) (by omega)).mp (ups1.symm.trans e75)
  have ega : ga = h0 := (nI_eq (by omega) (by omega)).mp (G3.symm.trans e79)
  have egc : gc = o0 := (nI_eq (by omega) (by omega)).mp (G7.symm.trans e84)
  subst em0
  subst ega
  subst egc
  obtain ⟨q1, q2, q3, q4, q5, q6, q7, q8, q9, q10, q11, q12, q13, q14⟩ := o13
  have nu24 : nu ≤ 24 := q7
  have nd24 : nd ≤ 24 := q6
  have I89 : ∀ a, z + 89 ≤ a → cI M' a = cI Mf a := fun a ha => CI a (by omega) (by omega) (by omega) (by omega) (by omega) (by omega) (by omega) (by omega) (by omega)
  have hM : AgM (fun a => a ≠ z ∧ a ≠ z + 9 ∧ a ≠ z + 11 ∧ a ≠ z + 12 ∧ a ≠ z + 13 ∧ a ≠ z + 15 ∧ a ≠ z + 18 ∧ a ≠ z + 30 ∧ a ≠ z + 88) Mf M' := ⟨fun a ha => CI a ha.1 ha.2.1 ha.2.2.1 ha.2.2.2.1 ha.2.2.2.2.1 ha.2.2.2.2.2.1 ha.2.2.2.2.2.2.1 ha.2.2.2.2.2.2.2.1 ha.2.2.2.2.2.2.2.2, fun _ _ => by rw [CL], CR⟩
  have hS : AgS (fun k => k ≠ 75 ∧ k ≠ 79 ∧ k ≠ 84 ∧ k ≠ 101) (fun k => k ≠ 54 ∧ k ≠ 56 ∧ k ≠ 57 ∧ k ≠ 58 ∧ k ≠ 60 ∧ k ≠ 62 ∧ k ≠ 100) Sf S' := ⟨fun k hk => F k hk.1 hk.2.1 hk.2.2.1 hk.2.2.2, fun k hk => SA' k hk.1 hk.2.1 hk.2.2.1 hk.2.2.2.1 hk.2.2.2.2.1 hk.2.2.2.2.2.1 hk.2.2.2.2.2.2, fun _ _ => by rw [SL]⟩
  have A72 := SA' 72 (by decide) (by decide) (by decide) (by decide) (by decide) (by decide) (by decide)
  have A73 := SA' 73 (by decide) (by decide) (by decide) (by decide) (by decide) (by decide) (by decide)
  have A74 := SA' 74 (by decide) (by decide) (by decide) (by decide) (by decide) (by decide) (by decide)
  have A55 := SA' 55 (by decide) (by decide) (by decide) (by decide) (by decide) (by decide) (by decide)
  have A59 := SA' 59 (by decide) (by decide) (by decide) (by decide) (by decide) (by decide) (by decide)
  have s55 : mA Sf 55 = mA S 55 := hd.2.2.2.2.2.1 55 (by unfold stR; omega)
  refine ⟨⟨o1.sb hM, ?_, o3.sb hM hS (by omega) (by decide) (by decide), o4.sb hM hS (by omega) (by decide), hF, ?_, ?_, ?_, ?_, o10.sb hM hS (by omega) (by decide) (by decide), ?_, ?_, ⟨q1, q2, q3, q4, q5, q6, q7, q8, q9, q10, q11, q12, q13, q14⟩ |> fun w => SA.sb hM hS (fun a ha => by omega) (by decide) (by decide) w, o14.sb hM hS (fun a ha => by omega) (by decide), ?_, o16.sb hM hS (fun a ha => by omega) (by decide), o17.sb hM hS (fun a ha => by omega) (fun k k1 k2 => by omega), o18⟩, ?_⟩
  · obtain ⟨x1, x2, x3, x4, x5, x6, x7⟩ := o2
    refine ⟨?_, ?_, ?_, ?_, ?_, ?_, ?_⟩
    · rw [CI (z + 8) (by omega) (by omega) (by omega) (by omega) (by omega) (by omega) (by omega) (by omega) (by omega), F 63 (by decide) (by decide) (by decide) (by decide)]; exact x1
    · rw [CZ 9 (by decide), F 88 (by decide) (by decide) (by decide) (by decide)]; exact x2
    · rw [CZ 10 (by decide), F 89 (by decide) (by decide) (by decide) (by decide)]; exact x3
    · rw [CZ 11 (by decide), F 66 (by decide) (by decide) (by decide) (by decide)]; exact x4
    · rw [CZ 12 (by decide), F 64 (by decide) (by decide) (by decide) (by decide)]; exact x5
    · rw [F 64 (by decide) (by decide) (by decide) (by decide)]; exact x6
    · rw [CI (z + 35) (by omega) (by omega) (by omega) (by omega) (by omega) (by omega) (by omega) (by omega) (by omega), F 65 (by decide) (by decide) (by decide) (by decide)]; exact x7
  · obtain ⟨n', x1, x2, x3, x4⟩ := o6
    have en : n' = m := (nI_eq (by omega) (by omega)).mp (x3.symm.trans ups2)
    subst en
    refine ⟨m0, n7, C30.1, F75, fun j hj => ?_⟩
    rw [CI (z + 31) (by omega) (by omega) (by omega) (by omega) (by omega) (by omega) (by omega) (by omega) (by omega), A72, A73, A74]
    exact x4 j (by omega)
  · obtain ⟨n', s, x1, x2, x3, x4, x5, x6⟩ := o7
    have en : n' = ga' := (nI_eq (by omega) (by omega)).mp (x5.symm.trans G4)
    subst en
    refine ⟨ga, s, b79, x2, by rw [F 65 (by decide) (by decide) (by decide) (by decide)]; exact x3, C30.2.1, F79, fun j hj j2 => ?_⟩
    rw [CI (z + 32) (by omega) (by omega) (by omega) (by omega) (by omega) (by omega) (by omega) (by omega) (by omega), SA' 76 (by decide) (by decide) (by decide) (by decide) (by decide) (by decide) (by decide), SA' 77 (by decide) (by decide) (by decide) (by decide) (by decide) (by decide) (by decide), SA' 78 (by decide) (by decide) (by decide) (by decide) (by decide) (by decide) (by decide)]
    exact x6 j (by omega) j2
  · obtain ⟨n', s, x1, x2, x3, x4, x5, x6⟩ := o8
    have en : n' = gc' := (nI_eq (by omega) (by omega)).mp (x5.symm.trans G8)
    subst en
    refine ⟨gc, s, b84, x2, by rw [F 65 (by decide) (by decide) (by decide) (by decide)]; exact x3, C30.2.2.1, F84, fun j hj j2 => ?_⟩
    rw [CI (z + 33) (by omega) (by omega) (by omega) (by omega) (by omega) (by omega) (by omega) (by omega) (by omega), SA' 80 (by decide) (by decide) (by decide) (by decide) (by decide) (by decide) (by decide), SA' 81 (by decide) (by decide) (by decide) (by decide) (by decide) (by decide) (by decide), SA' 82 (by decide) (by decide) (by decide) (by decide) (by decide) (by decide) (by decide), SA' 83 (by decide) (by decide) (by decide) (by decide) (by decide) (by decide) (by decide)]
    exact x6 j (by omega) j2
  · unfold RZ at o9 ⊢
    rw [C30.2.2.2, CI (z + 34) (by omega) (by omega) (by omega) (by omega) (by omega) (by omega) (by omega) (by omega) (by omega), F 87 (by decide) (by decide) (by decide) (by decide), SA' 85 (by decide) (by decide) (by decide) (by decide) (by decide) (by decide) (by decide), SA' 86 (by decide) (by decide) (by decide) (by decide) (by decide) (by decide) (by decide)]
    exact o9
  · intro u hu
    obtain ⟨x1, x2, x3, x4, x5, x6, ⟨n, x7, x8, x9, x10⟩, x11, x12⟩ := h.2.2.2.2.2.2.2.2.2.2.1 u hu
    obtain ⟨-, y2, -, -, -, y6, ⟨n', y7, y8, y9, y10⟩, -, -⟩ := o11 u hu
    obtain ⟨t1, t2, t3, t4, -⟩ := SB1 u hu
    refine ⟨by rw [B9 u hu, t1]; exact x1, by rw [CI (z + 10) (by omega) (by omega) (by omega) (by omega) (by omega) (by omega) (by omega) (by omega) (by omega), A55]; exact y2, by rw [B12 u hu, t2]; exact x3, by rw [B13 u hu, t3]; exact x4, by rw [t1, t2, t3]; exact x5, by rw [A55]; exact y6, ⟨n, x7, by rw [B15 u hu]; exact x8, by rw [t4]; exact x9, fun i hi => ?_⟩, by rw [t1]; exact x11, by rw [t1]; exact x12⟩
    rw [CI (z + 14) (by omega) (by omega) (by omega) (by omega) (by omega) (by omega) (by omega) (by omega) (by omega), A59]
    refine y10 i ?_
    obtain ⟨c0, c1, c2, c3, c4, c5⟩ := G2 u hu
    have := (nI_eq (by omega) (by omega)).mp (c2.symm.trans x9)
    have := (nI_eq (by omega) (by omega)).mp (c3.symm.trans y9)
    omega
  · intro d hd'
    obtain ⟨x1, x2, x3, x4⟩ := h.2.2.2.2.2.2.2.2.2.2.2.1 d hd'
    obtain ⟨y1, y2, y3, y4⟩ := o12 d hd'
    refine ⟨?_, ?_, ?_, ?_⟩
    · rw [CI (z + 17) (by omega) (by omega) (by omega) (by omega) (by omega) (by omega) (by omega) (by omega) (by omega), SA' 61 (by decide) (by decide) (by decide) (by decide) (by decide) (by decide) (by decide)]; exact y1
    · rw [B18 d (by omega), (SB1 d (by omega)).2.2.2.2]; exact x2
    · rw [SA' 61 (by decide) (by decide) (by decide) (by decide) (by decide) (by decide) (by decide)]; exact y3
    · rw [(SB1 d (by omega)).2.2.2.2]; exact x4
  · obtain ⟨a4, a5, a6, w4, w5, w6, w, ww⟩ := o15
    refine ⟨a4, a5, a6, w4.sb hM, w5.sb hM, w6.sb hM, fun u hu => ?_, ?_⟩
    · obtain ⟨e, tu, t1, t2⟩ := w u hu
      refine ⟨by rw [CL, SL]; exact e, tu, by rw [CR]; exact t1, ?_⟩
      obtain ⟨x1, x2, x3, x4, x5, x6, x7, x8, ni, ns, v1, v2, v3, v4, v5, v6, v7, v8, v9, v10⟩ := t2
      have R : ∀ k, (20 ≤ k ∧ k ≤ 31) → mA S' k = mA Sf k := fun k hk => SA' k (by omega) (by omega) (by omega) (by omega) (by omega) (by omega) (by omega)
      have Rs : ∀ k, (20 ≤ k ∧ k ≤ 31) → mA Sf k = mA S k := fun k hk => hd.2.2.2.2.2.1 k (by unfold stR; omega)
      have It := I89 tu x1.1
      refine ⟨x1, x2, by rw [It, R 20 (by omega)]; exact x3, by rw [R 20 (by omega)]; exact x4, by rw [It, R 21 (by omega)]; exact x5, by rw [R 21 (by omega)]; exact x6, by rw [It, R 22 (by omega)]; exact x7, by rw [It, R 23 (by omega)]; exact x8, ni, ns, v1, v2, by rw [It]; exact v3, by rw [R 25 (by omega)]; exact v4, by rw [It]; exact v5, by rw [R 31 (by omega)]; exact v6, by rw [R 30 (by omega)]; exact v7, by rw [R 27 (by omega), R 29 (by omega)]; exact v8, by rw [R 27 (by omega)]; exact v9, fun s hs hz => ?_⟩
      obtain ⟨_, _, _, -, -, -, w0, -⟩ := h.2.2.2.2.2.2.2.2.2.2.2.2.2.2.1
      obtain ⟨-, tu2, -, -, -, -, -, -, -, -, -, ni2, ns2, z1, z2, -, z4, -, z6, -, -, -, z10⟩ := w0 u hu
      have eni : ni2 = ni := (nI_eq (by omega) (by omega)).mp (z4.symm.trans ((congrFun (Rs 25 (by omega)) _).symm.trans v4))
      have ens : ns2 = ns := (nI_eq (by omega) (by omega)).mp (z6.symm.trans ((congrFun (Rs 31 (by omega)) _).symm.trans v6))
      rw [R 27 (by omega), Rs 27 (by omega)] at hz
      obtain ⟨r, c1, c2, c3⟩ := z10 s (by omega) hz
      refine ⟨r, by omega, by rw [R 29 (by omega), Rs 29 (by omega)]; exact c2, ?_⟩
      rw [B11 _ (by omega), SB2 _ (by omega)]
      exact c3
    · rw [I89 a6 w6.2.1.1, SA' 34 (by decide) (by decide) (by decide) (by decide) (by decide) (by decide) (by decide)]
      exact ww
  · refine ⟨?_, ?_, fun u hu => ?_, fun w => ?_⟩
    · obtain ⟨hg1, hg2⟩ := cge_dd h rv.1 hd
      refine ⟨?_, hg2⟩
      rcases hg2 with h2 | h2
      · have hC : CLp st K K Mf M' := ⟨KE.rf K, fun a a1 _ _ => I89 a (by omega), fun a _ _ => by rw [CL], fun a _ _ => by rw [CR]⟩
        have hW : RWp b Sf S' := ⟨fun k j k1 k2 _ _ => by rw [SA' k (by omega) (by omega) (by omega) (by omega) (by omega) (by omega) (by omega)], fun j _ => by rw [SL]⟩
        exact hg1.pw q7 q8 hC hW
      · exact Or.inl h2
    · obtain ⟨n, u1, u2, u3, u4, u5⟩ := rv.2.1
      have en : n = m0 := (nI_eq (by omega) (by omega)).mp (u1.symm.trans e75)
      subst en
      have r7 : ∀ j, j < n → mA S' 72 j = mA S 72 j ∧ mA S' 73 j = mA S 73 j := fun j hj => by rw [A72, A73]; exact ups5 j hj
      refine ⟨n, F75, n7, fun j hj => ?_, fun i j hij hj w => ?_, fun u hu w => ?_⟩
      · obtain ⟨u, e, c, x1, x2, x3, x4, x5, x6, x7⟩ := u3 j hj
        exact ⟨u, e, c, x1, x2, x3, (r7 j hj).1.trans x4, (r7 j hj).2.trans x5, by rw [A55, s55]; exact x6, fun q => by rw [(SB1 u (by omega)).1]; exact x7 q⟩
      · rw [(r7 i (by omega)).1, (r7 j hj).1] at w
        rw [(r7 i (by omega)).2, (r7 j hj).2]
        exact u4 i j hij hj w
      · rw [(SB1 u (by omega)).1] at w
        obtain ⟨j, j1, j2, j3⟩ := u5 u hu w
        exact ⟨j, j1, (r7 j j1).1.trans j2, by rw [(r7 j j1).2, A55, s55]; exact j3⟩
    · obtain ⟨n, v1, v2, -⟩ := rv.2.2.1 u hu
      obtain ⟨n', v3, v4, v5, v6⟩ := hN u hu
      obtain ⟨c0, c1, c2, c3, c4, c5⟩ := G2 u (by omega)
      have := (nI_eq (by omega) (by omega)).mp (c2.symm.trans v1)
      have := (nI_eq (by omega) (by omega)).mp (c3.symm.trans v3)
      refine ⟨n, by rw [(SB1 u (by omega)).2.2.2.1]; exact v1, v2, fun i hi => ?_, fun i j hij hj => ?_⟩
      · rw [A59]; exact v5 i (by omega)
      · rw [A59]; exact v6 i j hij (by omega)
    · rw [F 64 (by decide) (by decide) (by decide) (by decide), r1 64 (by omega)] at w
      obtain ⟨x1, x2⟩ := rv.2.2.2 w
      rw [F 87 (by decide) (by decide) (by decide) (by decide), r1 87 (by omega)]
      exact ⟨x1, fun u hu => by rw [(SB1 u hu).1]; exact x2 u hu⟩
end FORE2
