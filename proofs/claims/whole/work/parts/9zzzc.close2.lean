/-! close as a whole -/
section CLOSE2
variable {z b st nd nu nm lim nh no c B0 N m : Nat} {K : Ka} {M M' M2 Mf Ma : Cm} {S S' S2 Ss Sa Sf : Ms}
theorem c_up0 (hL : LY z K M) (N : Nat) {n i : Nat} (h4 : cI M (z + 30) 4 = nI n) (hn : n ≤ 744) (hi : i < n) : fC_X0_upAt N K (z + 30) (nI i) 0 M = some (cI M (z + 31) (i * 3), M) := by
  unfold fC_X0_upAt
  rw [gd_k (hL.k 30 1 0 rfl), nn_s (hL.r 30 0 31 (by decide)), h4, show (3 : Int32) = nI 3 from rfl, c_at N (nI i) 0 (hL.k 31 22 2232 rfl) (hL.l 31 22 2232 rfl (by decide)) (by omega) (by omega) (by decide) (by decide)]
  have nn : ¬ (nI i < 0 ∨ nI n ≤ nI i ∨ (0 : Int32) < 0 ∨ nI 3 ≤ (0 : Int32)) := fun w => by
    rcases w with w | w | w | w
    · exact nI_nl (by omega) w
    · exact nI_ge hi (by omega) w
    · exact absurd w (by decide)
    · exact absurd w (by decide)
  rw [if_neg nn, bs, nI_clamp (by omega)]
  rfl
theorem c_isUz (hL : LY z K M) (g3 : cR M z 7 = some st) (g5 : kd K st = 6) (h11 : cI M st 11 = nI nu) (hn : nu ≤ 24) (N : Nat) {u : Nat} (hu : u < nu) : fC_X8_isUnit N K z (nI u) M = some (1, M) := by
  unfold fC_X8_isUnit bC_X8_isUnit_20
  rw [if_neg (nI_nl (by omega)), gd_k hL.k9, nn_s g3, gd_k g5, h11, if_neg (nI_ge hu (by omega)), gd_t (show is01 1 = true from rfl)]
theorem clz_lp (hB : B0 + 25000000 ≤ 1000000000) (hN : 1000000 < N) {n : Nat} (hU : UPI nu Sa) (hn : mF Sa 75 = nI n) (hn7 : n ≤ 744) (kC : Nat → Int32 → Cm → Option (Int32 × Cm)) (kM : Int32 → Ms → Option (Int32 × Ms)) : ∀ (i m f f' : Nat) (M : Cm) (S : Ms), i ≤ n → i < f → i < f' → CLR z b st nd nu nm K M S m → HOB (B0 + m * 1000000) S → (∃ n', mF S 75 = nI n' ∧ n ≤ n' ∧ n' ≤ 744 ∧ ∀ j, j < n → mA S 72 j = mA Sa 72 j ∧ mA S 73 j = mA Sa 73 j) → mA S 55 = mA Sa 55 → (∀ v, mA S 54 v = 2 → mA Sa 54 v = 2) → (∀ j, i ≤ j → j < n → ∀ v, v < 24 → mA Sa 72 j = nI v → mA S 54 v ≠ 2) →
    ∃ k' M' S' m', lC_X8_close_21 N K kC f z (nI m) (nI i - 1) M = kC z (nI k') M' ∧ lM_close_23 N kM f' (nI m) (nI i - 1) S = kM (nI k') S' ∧ CLR z b st nd nu nm K M' S' m' ∧ HOB (B0 + 24000000) S' := by
  intro i
  induction i with
  | zero =>
    intro m f f' M S h1 h2 h3 c hob _ _ _ _
    obtain ⟨f, rfl⟩ : ∃ x, f = x + 1 := ⟨f - 1, by omega⟩
    obtain ⟨f', rfl⟩ : ∃ x, f' = x + 1 := ⟨f' - 1, by omega⟩
    have m24 : m ≤ 24 := by
      have := c.2.2.2.2.2.1
      have := c.1.2.2.2.2.2.2.2.2.2.2.2.2.1.2.2.2.2.2.2.1
      omega
    obtain ⟨x, y, p1, p2, p3, p4⟩ := hob
    refine ⟨m, M, S, m, ?_, ?_, c, ⟨x, y, p1, p2, by omega, by omega⟩⟩
    · rw [lC_X8_close_21, if_pos (show nI 0 - 1 < (0 : Int32) by decide)]
    · rw [lM_close_23, if_pos (show nI 0 - 1 < (0 : Int32) by decide)]
  | succ i ih =>
    intro m f f' M S h1 h2 h3 c hob hr h55 h54 hs
    obtain ⟨f, rfl⟩ : ∃ x, f = x + 1 := ⟨f - 1, by omega⟩
    obtain ⟨f', rfl⟩ : ∃ x, f' = x + 1 := ⟨f' - 1, by omega⟩
    obtain ⟨n', r1, r2, r3, r4⟩ := hr
    have h := c.1
    have hL := h.1
    obtain ⟨g1, g2, g3, g4, g5, g6, g7, g8, -, -, g11, -⟩ := h.2.2.2.2.2.2.2.2.2.2.2.2.1
    obtain ⟨nr, w1, w2, w3, w4⟩ := h.2.2.2.2.2.1
    have en : nr = n' := (nI_eq (by omega) (by omega)).mp (w3.symm.trans r1)
    subst en
    have U0 := hU
    obtain ⟨n2, a1, a2, a3, a4, a5⟩ := hU
    have en2 : n2 = n := (nI_eq (by omega) (by omega)).mp (a1.symm.trans hn)
    subst en2
    obtain ⟨u, e, ce, b1, b2, b3, b4, b5, b6, -⟩ := a3 i (by omega)
    have m72 : mA S 72 i = nI u := (r4 i (by omega)).1.trans b4
    have m73 : mA S 73 i = nI e := (r4 i (by omega)).2.trans b5
    have c31 : cI M (z + 31) (i * 3) = nI u := (w4 i (by omega)).1.trans m72
    have st9 : cI M (z + 9) u = mA S 54 u := (h.2.2.2.2.2.2.2.2.2.2.1 u (by omega)).1
    rw [lC_X8_close_21, lM_close_23, nI_p1, if_neg (nI_nl (show i < 2 ^ 31 by omega)), if_neg (nI_nl (show i < 2 ^ 31 by omega)), gd_k hL.k9, nn_s (hL.r0 4 30 (by decide)), gd_k (hL.k 30 1 0 rfl), c_up0 hL N w2 w1 (show i < nr by omega), bs, c31, c_isUz hL g3 g5 g11 g7 N b1, bs]
    dsimp only
    rw [if_neg (show ¬ (1 : Int32) = 0 by decide), nn_s (hL.r0 2 8 (by decide)), gd_k (hL.k 8 5 0 rfl), nn_s (hL.r 8 0 9 (by decide)), gd_k (hL.k 9 22 24 rfl), hL.l 9 22 24 rfl (by decide), ck_n (show u < 24 by omega) (by decide), nI_clamp (show u < 2 ^ 31 by omega), st9]
    rw [ck_n (show i < 800 by omega) (by decide), nI_clamp (show i < 2 ^ 31 by omega), m72, ck_n (show u < 24 by omega) (by decide), nI_clamp (show u < 2 ^ 31 by omega)]
    have dec : nI i + (-1) = nI i - 1 := (Int32.sub_eq_add_neg (nI i) 1).symm
    by_cases q : mA S 54 u = 2
    · have ed : mA S 55 u = nI e := by
        obtain ⟨j, j1, j2, j3⟩ := a5 u b1 (h54 u q)
        rw [b6] at j3
        rw [h55, b6]
        by_cases ej : j = i
        · subst ej; rw [b5] at j3; exact j3.symm
        · by_cases lt : i < j
          · exact absurd q (hs j (by omega) j1 u (by omega) j2)
          · obtain ⟨x, y, x1, x2, x3, x4⟩ := a4 j i (by omega) (by omega) (j2.trans b4.symm)
            have := (nI_eq (by omega) (by omega)).mp (x3.symm.trans j3)
            have := (nI_eq (by omega) (by omega)).mp (x4.symm.trans b5)
            omega
      rw [if_pos q, if_pos q, nn_s g3, nn_s (hL.r0 5 35 (by decide)), gd_k (hL.k 35 3 0 rfl)]
      rw [ck_n (show i < 800 by omega) (by decide), ck_n (show u < 24 by omega) (by decide), m73, ed, if_pos rfl]
      have m23 : B0 + m * 1000000 + 1000000 ≤ 1000000000 := by
        have := c.2.2.2.2.2.1
        omega
      obtain ⟨kd1, Mf, Sf, y1, y2, y3, y4, y5, y6, y7, y8, y9, y10⟩ := cl_one c hob m23 hN b1 q
      have hLf := y4.1
      obtain ⟨nf, z1, z2, z3, z4⟩ := y10 nr r3 r1
      have c7 : cI Mf (z + 30) 7 = nI m := by
        obtain ⟨x, x1, x2, x3, -⟩ := y4.2.2.2.2.2.2.2.2.1
        rw [x2, ← x3, y5]
      have hL1 : LY z K (wI Mf (z + 9) u 4) := hLf
      rw [y1, bs]
      dsimp only
      rw [nn_s (hLf.r0 2 8 (by decide)), gd_k (hL.k 8 5 0 rfl), nn_s (hLf.r 8 0 9 (by decide)), gd_k (hL.k 9 22 24 rfl), hL.l 9 22 24 rfl (by decide), ck_n (show u < 24 by omega) (by decide), nn_s (hL1.r0 4 30 (by decide)), gd_k (hL.k 30 1 0 rfl), c_addClosed hL1 N (by rw [cI_wI_ne _ _ _ (by omega)]; exact c7) y6, bs, y2, bs]
      unfold bC_X8_close_93 bM_close_67
      rw [nI_1, dec]
      have Ao : ∀ k, k ≠ 54 → k ≠ 85 → k ≠ 86 → mA (clS m u kd1 Sf) k = mA Sf k := fun k a1 a2 a3 => by unfold clS; rw [mA_F, mA_Ane _ _ _ a3, mA_Ane _ _ _ a2, mA_Ane _ _ _ a1]
      have Fo : mF (clS m u kd1 Sf) 75 = mF Sf 75 := by unfold clS; rw [mF_F, if_neg (by decide)]; rfl
      refine ih (m + 1) f f' _ _ (by omega) (by omega) (by omega) y3 (by rw [show B0 + (m + 1) * 1000000 = B0 + m * 1000000 + 1000000 by omega]; exact y7) ⟨nf, Fo.trans z1, by omega, z3, fun j hj => ?_⟩ ?_ (fun v hv => ?_) (fun j j1 j2 v v1 v2 => ?_)
      · rw [Ao 72 (by decide) (by decide) (by decide), Ao 73 (by decide) (by decide) (by decide)]
        obtain ⟨x1, x2⟩ := z4 j (by omega)
        obtain ⟨x3, x4⟩ := r4 j hj
        exact ⟨x1.trans x3, x2.trans x4⟩
      · rw [Ao 55 (by decide) (by decide) (by decide), y9]; exact h55
      · rw [y8] at hv
        by_cases ev : v = u
        · rw [if_pos ev] at hv; exact absurd hv (by decide)
        · rw [if_neg ev] at hv; exact h54 v hv
      · rw [y8]
        by_cases ev : v = u
        · rw [if_pos ev]; decide
        · rw [if_neg ev]
          by_cases ej : j = i
          · subst ej
            exact absurd ((nI_eq (by omega) (by omega)).mp (v2.symm.trans b4)) ev
          · exact hs j (by omega) j2 v v1 v2
    · rw [if_neg q, if_neg q]
      unfold bC_X8_close_93 bM_close_67
      rw [dec]
      refine ih m f f' M S (by omega) (by omega) (by omega) c hob ⟨nr, r1, r2, r3, r4⟩ h55 h54 (fun j j1 j2 v v1 v2 => ?_)
      by_cases ej : j = i
      · subst ej
        have : v = u := (nI_eq (by omega) (by omega)).mp (v2.symm.trans b4)
        rw [this]; exact q
      · exact hs j (by omega) j2 v v1 v2
theorem g_close (h0 : RelP z K M S b st nd nu nm) (rv0 : RV z b st nd nu nm K M S) (hob : HOB B0 S) (hB : B0 + 25000000 ≤ 1000000000) (hN : 1000000 < N) : ∃ M' S', fS_close N z K M S = some (K, M', S') ∧ RelP z K M' S' b st nd nu nm ∧ RV z b st nd nu nm K M' S' ∧ ((mF S 64 ≠ 0 ∧ HOB B0 S' ∧ mF S' 64 = mF S 64) ∨ (mF S 64 = 0 ∧ HOB (B0 + 24000000) S' ∧ mF S' 64 = 1)) := by
  have h : RelP z K M (pF S 0 0) b st nd nu nm := h0.thr 0
  have rv := rv0.t0 h0 0
  obtain ⟨q1, q2, q3, q4, q5, q6, q7⟩ := h.2.1
  have hL := h.1
  unfold fS_close fC_X8_close fM_close
  rw [gd_k hL.k9, gd_k hL.k9, q5]
  by_cases s0 : mF (pF S 0 0) 64 = 0
  · obtain ⟨n, w1, w2, w3, w4⟩ := h.2.2.2.2.2.1
    rw [if_pos s0, if_pos s0, nn_s (hL.r0 4 30 (by decide)), gd_k (hL.k 30 1 0 rfl), w2, w3]
    have m0 : mF (pF S 0 0) 87 = nI 0 := (rv.2.2.2 s0).1
    have c0 : CLR z b st nd nu nm K M (pF S 0 0) 0 := ⟨h, rv.1, rv.2.1, rv.2.2.1, m0, by have := cU_le (S := pF S 0 0) nu; omega, s0⟩
    obtain ⟨k', M', S', m', e1, e2, e3, e4⟩ := clz_lp (B0 := B0) hB hN rv.2.1 w3 w1 (bC_X8_close_99 N K) (bM_close_73 N) n 0 N N M (pF S 0 0) (Nat.le_refl _) (by omega) (by omega) c0 (by rw [Nat.zero_mul, Nat.add_zero]; exact hob) ⟨n, w3, Nat.le_refl _, w1, fun j _ => ⟨rfl, rfl⟩⟩ rfl (fun v hv => hv) (fun j j1 j2 => by omega)
    have e1' : lC_X8_close_21 N K (bC_X8_close_99 N K) N z 0 (nI n - 1) M = bC_X8_close_99 N K z (nI k') M' := e1
    have e2' : lM_close_23 N (bM_close_73 N) N 0 (nI n - 1) (pF S 0 0) = bM_close_73 N (nI k') S' := e2
    have hL' := e3.1.1
    rw [e1', e2']
    unfold bC_X8_close_99 bM_close_73
    rw [gd_k hL'.k9, gd_t (show is01 1 = true from rfl), bs, gd_t (show is01 1 = true from rfl), bs]
    have p : PLF z M' (wI M' z 12 1) S' (pF S' 64 1) :=
      ⟨⟨fun a ha => cI_wI_ne _ _ _ ha, fun _ _ => rfl, rfl⟩, rfl, fun k hk => by rw [mF_F, if_neg (by omega)], fun _ _ => rfl, fun _ _ => rfl⟩
    obtain ⟨x1, x2, x3, x4, x5, x6, x7⟩ := e3.1.2.1
    have r1 : RelP z K (wI M' z 12 1) (pF S' 64 1) b st nd nu nm := by
      refine e3.1.plf p ⟨?_, ?_, ?_, ?_, ?_, ?_, ?_⟩ (by rw [cI_w, if_neg (by omega)])
      · rw [cI_wI_ne _ _ _ (by omega), mF_F, if_neg (by decide)]; exact x1
      · rw [cI_w, if_neg (by omega), mF_F, if_neg (by decide)]; exact x2
      · rw [cI_w, if_neg (by omega), mF_F, if_neg (by decide)]; exact x3
      · rw [cI_w, if_neg (by omega), mF_F, if_neg (by decide)]; exact x4
      · rw [cI_w, if_pos ⟨rfl, rfl⟩, mF_F, if_pos rfl]
      · rw [mF_F, if_pos rfl]; exact Or.inr rfl
      · rw [cI_wI_ne _ _ _ (by omega), mF_F, if_neg (by decide)]; exact x7
    refine ⟨_, _, gd_t (beq_self_eq_true _), r1, ⟨?_, e3.2.2.1.ag (by rw [mF_F, if_neg (by decide)]) (fun _ _ => rfl), e3.2.2.2.1.ag (fun _ _ => rfl), fun w => ?_⟩, Or.inr ⟨s0, ?_, by rw [mF_F, if_pos rfl]⟩⟩
    · exact cge_fr e3.1 (KE.rf K) (fun a a1 a2 => cI_wI_ne _ _ _ (by omega)) (fun _ _ _ => rfl) rfl (fun _ _ _ => rfl) rfl e3.2.1
    · rw [mF_F, if_pos rfl] at w; exact absurd w (by decide)
    · obtain ⟨x, y, p1, p2, p3, p4⟩ := e4
      exact ⟨x, y, by rw [mF_F, if_neg (by decide)]; exact p1, by rw [mF_F, if_neg (by decide)]; exact p2, p3, p4⟩
  · rw [if_neg s0, if_neg s0, bs, bs]
    exact ⟨M, pF S 0 0, gd_t (beq_self_eq_true _), h, rv, Or.inl ⟨s0, hob, rfl⟩⟩
end CLOSE2
