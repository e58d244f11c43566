/-! the new station stands -/
section NEWREL
variable {z b bn sm t st nd nu nm nd0 nu0 nm0 rc cc : Nat} {K0 K : Ka} {M : Cm} {S : Ms} {mk : List Mk}
/-- a unit as the calls look at it -/
theorem UB.un {M4 : Cm} {S4 : Ms} {u tu : Nat} (ha : UA K M4 S4 bn sm u tu) (hb : UB M4 S4 bn u tu) (hz : z + 174 ≤ sm) (h1 : ∀ j, j < 192 → cI M4 (z + 11) j = 0) (h2 : ∀ j, j < 192 → mA S4 56 j = 0) (hu : u < 24) : UN z K M4 S4 tu (24 * bn + u) u := by
  obtain ⟨ni, ns, a1, a2, a3, a4, a5, a6, a7, a8, a9, a10, a11, a12⟩ := hb
  obtain ⟨q1, q2, q3, q4, q5, q6, q7, q8, q9, q10, -⟩ := ha
  refine ⟨⟨by omega, by omega⟩, q3, q5, q6, q7, q8, q9, q10, ni, ns, a2, a1, a3, a4, a5, a6, a7, fun r hr => ?_, fun s hs => ?_, fun s hs h0 => ?_⟩
  · obtain ⟨s, w1, w2, w3⟩ := a10 r hr
    refine ⟨s, w1, w2, w3, fun s' hs' => ?_⟩
    by_cases y : mA S4 27 (8 * (24 * bn + u) + s') = 0
    · right
      intro y2
      have := a11 s' s (by omega) w1 y w2 (by rw [y2, w3])
      omega
    · exact Or.inl y
  · rcases (a9 s hs).2 with ⟨w, -⟩ | ⟨w, -⟩
    · exact Or.inr w
    · exact Or.inl w
  · rcases (a9 s hs).2 with ⟨w, -⟩ | ⟨-, -, -, r, w1, w2⟩
    · rw [w] at h0; exact absurd h0 (by decide)
    · exact ⟨r, w1, w2, by rw [h1 _ (by omega), h2 _ (by omega)]⟩
theorem new_rel (old : RelP z K (wI M (z + 1) 5 0) S b st nd0 nu0 nm0) (f : FIN z b bn sm t K0 K M S nd nu nm mk rc cc) {N : Nat} (hN : 192 < N) :
    ∃ M4 S4, bT_X8_station_23 N z (some sm) K M = some (0, K, M4) ∧ ((fM_forget N (pF S 11 (nI bn))).bind fun o => some (mF o 8, o)) = some (0, S4) ∧ RelP z K M4 S4 bn sm nd nu nm ∧ CGE sm bn nd nu nm K M4 S4 ∧ mF S4 75 = 0 ∧ mF S4 79 = 0 ∧ mF S4 84 = 0 ∧ mF S4 87 = 0 ∧ (∀ u, u < 24 → mA S4 54 u = 0 ∧ mA S4 55 u = 0 ∧ mA S4 60 u = 0) ∧ mF S4 65 = mF S 65 ∧ mF S4 0 = mF S 0 := by
  obtain ⟨⟨ev, t4, cr, hcc, m8⟩, nn, pu, dv, rw, dvd, dmd, und, cdf, lef⟩ := f
  obtain ⟨n1, n2, n3, n4, n5, n6, n7, n8, n9, n10, n11, n12, n13, n14, n15, n16⟩ := id nn
  have hz : z + 174 ≤ sm := cr.2.1
  have hk11 : sm + 11 ≤ kz K := ev.2.2.2.2.1
  obtain ⟨o1, o2, o3, o4, o5, o6, o7, o8, o9, o10, o11, o12, o13, o14, o15, o16, o17, o18⟩ := old
  have hLY : LY z K M := cr.1
  have r0 : cR M z 0 = some (z + 1) := hLY.r0 0 1 (by decide)
  -- rows of the station
  have dv0 := dv.2.2 0 23 (by decide)
  have dv1 := dv.2.2 1 22 (by decide)
  have dv2 := dv.2.2 2 22 (by decide)
  have dv3 := dv.2.2 3 22 (by decide)
  have rw4 := rw.1 4 23 (by decide)
  have rw5 := rw.1 5 26 (by decide)
  have rw6 := rw.1 6 22 (by decide)
  have rw7 := rw.2 7 23 (by decide)
  have rw8 := rw.2 8 22 (by decide)
  obtain ⟨x0, i1, i2, i3, i4, i5, i6⟩ := id n14
  rw [dv0.1] at i1; cases i1
  obtain ⟨x4, j1, j2, j3, j4, j5, j6⟩ := id n15
  rw [rw4.1] at j1; cases j1
  obtain ⟨x7, l1, l2, l3, l4, l5, l6⟩ := id n16
  rw [rw7.1] at l1; cases l1
  have m9 : min ((t + 1) / 9 + 1) 24 ≤ 24 := Nat.min_le_right _ _
  have m4 : min ((t + 1) / 4 + 1) 24 ≤ 24 := Nat.min_le_right _ _
  have m5 : min ((t + 1) / 4 + 1) 20 ≤ 20 := Nat.min_le_right _ _
  have ndl : nd ≤ min ((t + 1) / 9 + 1) 24 := by rw [← dv0.2.2]; exact i3
  have nul : nu ≤ min ((t + 1) / 4 + 1) 24 := by rw [← rw4.2.2]; exact j3
  have nml : nm ≤ min ((t + 1) / 4 + 1) 20 := by rw [← rw7.2.2]; exact l3
  -- the class
  generalize hM1 : wR (wI M (z + 1) 5 0) z 7 (some sm) = M1
  have m1I : ∀ a, a ≠ z + 1 → cI M1 a = cI M a := fun a ha => by rw [← hM1]; exact cI_wI_ne _ _ _ ha
  have m1L : ∀ a, cL M1 a = cL M a := fun a => by rw [← hM1]; rfl
  have m1R : ∀ a sl, cR M1 a sl = if a = z ∧ sl = 7 then some sm else cR M a sl := fun a sl => by rw [← hM1, cR_w]; rfl
  have LY1 : LY z K M1 := by
    obtain ⟨w1, w2, w3, w4, w5⟩ := hLY
    have lo7 : ∀ t ∈ lyR, ¬ (t.1 = 0 ∧ t.2.1 = 7) := by decide
    refine ⟨w1, fun t ht => ?_, fun k hk => ?_, w4, w5⟩
    · rw [m1R, if_neg (fun q => lo7 t ht ⟨by omega, q.2⟩)]; exact w2 t ht
    · rw [m1R, if_neg (by omega), m1R, if_neg (by omega)]; exact w3 k hk
  have R1' : cR M1 sm = cR M sm := by funext sl; rw [m1R, if_neg (by omega)]
  obtain ⟨M2, e1, e2, e3, e4, e5, e6, e7, e8⟩ := rst_ok (z := z) (sm := sm) (nd := nd) (K := K) (M := M1) LY1 n4 hz dv1.2.1 (by rw [dv1.2.2]; exact ndl) (by rw [dv1.2.2]; omega) n5 (by rw [m1I sm (by omega)]; exact n8) (by rw [R1']; exact dv1.1) hN
  have LY2 := LY1.sb e2
  generalize hM3 : wI (wI (wI (wI M2 (z + 30) 4 0) (z + 30) 5 0) (z + 30) 6 0) (z + 30) 7 0 = M3
  have m3I : ∀ a, a ≠ z + 30 → cI M3 a = cI M2 a := fun a ha => by rw [← hM3, cI_wI_ne _ _ _ ha, cI_wI_ne _ _ _ ha, cI_wI_ne _ _ _ ha, cI_wI_ne _ _ _ ha]
  have m3z : cI M3 (z + 30) 4 = 0 ∧ cI M3 (z + 30) 5 = 0 ∧ cI M3 (z + 30) 6 = 0 ∧ cI M3 (z + 30) 7 = 0 := by
    rw [← hM3]
    simp only [cI_w]
    simp
  generalize hM4 : wI (wI (wI (wI (wI M3 z 8 0) z 9 0) z 10 0) z 11 0) z 12 0 = M4
  have m4I : ∀ a, a ≠ z → cI M4 a = cI M3 a := fun a ha => by rw [← hM4, cI_wI_ne _ _ _ ha, cI_wI_ne _ _ _ ha, cI_wI_ne _ _ _ ha, cI_wI_ne _ _ _ ha, cI_wI_ne _ _ _ ha]
  have m4z : cI M4 z 8 = 0 ∧ cI M4 z 9 = 0 ∧ cI M4 z 10 = 0 ∧ cI M4 z 11 = 0 ∧ cI M4 z 12 = 0 := by
    rw [← hM4]
    simp only [cI_w]
    simp
  have m4L : cL M4 = cL M2 := by rw [← hM4, ← hM3]; rfl
  have m4R : cR M4 = cR M1 := by rw [← e2.2.2, ← hM4, ← hM3]; rfl
  have LY4 : LY z K M4 := by unfold LY at LY1 ⊢; rw [m4R]; exact LY1
  -- cells far away, and near
  have fI : ∀ a, z + 35 ≤ a → cI M4 a = cI M a := fun a ha => by rw [m4I a (by omega), m3I a (by omega), e2.1 a (Or.inl (by omega)), m1I a (by omega)]
  have fL : ∀ a, z + 35 ≤ a → cL M4 a = cL M a := fun a ha => by rw [m4L, e2.2.1 a (Or.inl (by omega)), m1L]
  have fR : ∀ a, z < a → cR M4 a = cR M a := fun a ha => by funext sl; rw [m4R, m1R, if_neg (by omega)]
  have nI' : ∀ a, z + 8 ≤ a → a ≤ z + 18 → cI M4 a = cI M2 a := fun a h1 h2 => by rw [m4I a (by omega), m3I a (by omega)]
  -- the reference
  have b2 : bn < 2 := by omega
  obtain ⟨S4, s1, s2, s3, s4, s5⟩ := fg_ok (S := pF S 11 (nI bn)) (b := bn) N hN b2 rfl
  have sF : ∀ k, k ≠ 11 → k ≠ 63 ∧ k ≠ 64 ∧ k ≠ 66 ∧ k ≠ 71 ∧ k ≠ 75 ∧ k ≠ 79 ∧ k ≠ 84 ∧ k ≠ 87 ∧ k ≠ 88 ∧ k ≠ 89 ∧ k ≠ 101 → mF S4 k = mF S k := fun k h1 h2 => by rw [s2.1 k h2, mF_F, if_neg h1]
  have sA : ∀ k, k ≤ 53 → mA S4 k = mA S k := fun k hk => by rw [s2.2.1 k (by omega), mA_F]
  have sL : ∀ k, k ≤ 53 → mL S4 k = mL S k := fun k hk => by rw [s2.2.2 k (by omega), mL_F]
  have hRW : RWp bn S S4 := ⟨fun k j _ h2 _ _ => by rw [sA k (by omega)], fun j _ => by rw [sL 26 (by decide)]⟩
  have hCL : CLp sm K K M M4 := ⟨KE.rf K, fun a h1 _ _ => fI a (by omega), fun a h1 _ => fL a (by omega), fun a h1 _ => fR a (by omega)⟩
  have pu4 := pu.pw hCL hRW n6 hk11
  have h11' : mF S4 11 = nI bn := by rw [s2.1 11 (by decide)]; rfl
  refine ⟨M4, S4, ?_, ?_, ?_, ?_, s5 75 (by decide), s5 79 (by decide), s5 84 (by decide), s5 87 (by decide), fun u hu => ⟨(s3 u hu).1, (s3 u hu).2.1, (s3 u hu).2.2.2.2.1⟩, sF 65 (by decide) (by decide), sF 0 (by decide) (by decide)⟩
  · unfold bT_X8_station_23 bT_X8_station_42 fC_X6_empty
    rw [gd_k hLY.k9, nn_s r0, gd_k (hLY.k 1 7 0 rfl), gd_k (hLY.k 1 7 0 rfl), bs]
    dsimp only
    rw [hM1, gd_k hLY.k9, nn_s (LY1.r0 2 8 (by decide)), gd_k (hLY.k 8 5 0 rfl), e1, bs, nn_s (LY2.r0 4 30 (by decide)), gd_k (hLY.k 30 1 0 rfl)]
    unfold fC_X0_empty fC_X0_cut
    rw [gd_k (hLY.k 30 1 0 rfl), gd_k (hLY.k 30 1 0 rfl), bs, bs, hM3, hM4]
  · rw [s1, bs, sF 8 (by decide) (by decide), m8]
  · -- the invariant
    have old65 := o7
    refine ⟨LY4, ?_, ?_, ?_, ?_, ?_, ?_, ?_, ?_, ?_, ?_, ?_, ?_, ?_, ?_, ?_, ?_, o18⟩
    · refine ⟨?_, ?_, ?_, ?_, ?_, Or.inl (s5 64 (by decide)), ?_⟩
      · rw [nI' (z + 8) (by omega) (by omega), e8, s5 63 (by decide)]
      · rw [m4z.2.1, s5 88 (by decide)]
      · rw [m4z.2.2.1, s5 89 (by decide)]
      · rw [m4z.2.2.2.1, s5 66 (by decide)]
      · rw [m4z.2.2.2.2, s5 64 (by decide)]
      · rw [fI (z + 35) (by omega), sF 65 (by decide) (by decide)]
        have := o2.2.2.2.2.2.2
        rw [cI_wI_ne _ _ _ (show z + 35 ≠ z + 1 by omega)] at this
        exact this
    · obtain ⟨n, w1, w2, w3, -⟩ := o3
      have hn0 : n = 0 := by
        rw [cI_w, if_pos ⟨rfl, rfl⟩] at w2
        exact ((nI_eq (a := 0) (b := n) (by decide) (by omega)).mp w2).symm
      subst hn0
      refine ⟨0, by omega, ?_, by rw [sF 2 (by decide) (by decide)]; exact w3, fun j hj => by omega⟩
      rw [m4I _ (by omega), m3I _ (by omega), e2.1 _ (Or.inl (by omega)), ← hM1]
      show cI (wI M (z + 1) 5 0) (z + 1) 5 = nI 0
      rw [cI_w, if_pos ⟨rfl, rfl⟩]
      rfl
    · refine ⟨fun j => ?_, fun j => by rw [sL 10 (by decide)]; exact o4.2 j⟩
      rw [m4L, e2.2.1 (z + 6) (Or.inl (by omega)), m1L]
      exact o4.1 j
    · exact ⟨0, by omega, by rw [m4z.1]; rfl, by rw [s5 101 (by decide)]; rfl, fun j hj => by omega⟩
    · exact ⟨0, by omega, by rw [m4I _ (by omega), m3z.1]; rfl, by rw [s5 75 (by decide)]; rfl, fun j hj => by omega⟩
    · obtain ⟨n, s, w1, w2, w3, -⟩ := o7
      exact ⟨0, s, by omega, w2, by rw [sF 65 (by decide) (by decide)]; exact w3, by rw [m4I _ (by omega), m3z.2.1]; rfl, by rw [s5 79 (by decide)]; rfl, fun j hj => by omega⟩
    · obtain ⟨n, s, w1, w2, w3, -⟩ := o7
      exact ⟨0, s, by omega, w2, by rw [sF 65 (by decide) (by decide)]; exact w3, by rw [m4I _ (by omega), m3z.2.2.1]; rfl, by rw [s5 84 (by decide)]; rfl, fun j hj => by omega⟩
    · exact ⟨0, by omega, by rw [m4I _ (by omega), m3z.2.2.2]; rfl, by rw [s5 87 (by decide)]; rfl, fun j hj => by omega⟩
    · refine ⟨0, by omega, by rw [nI' (z + 8) (by omega) (by omega), e7]; rfl, by rw [s5 71 (by decide)]; rfl, fun u e hu he => ?_, fun k hk => by omega⟩
      rw [nI' (z + 16) (by omega) (by omega), e6 u hu, bit1 (by omega), b_0]
      constructor
      · intro q; cases q
      · rintro ⟨k, hk, -⟩; omega
    · intro u hu
      obtain ⟨w1, w2, w3, w4, w5⟩ := e3 u hu
      obtain ⟨v1, v2, v3, v4, v5, -⟩ := s3 u hu
      unfold RE1
      rw [nI' (z + 9) (by omega) (by omega), nI' (z + 10) (by omega) (by omega), nI' (z + 12) (by omega) (by omega), nI' (z + 13) (by omega) (by omega), nI' (z + 15) (by omega) (by omega), w1, w2, w3, w4, w5, v1, v2, v3, v4, v5]
      exact ⟨rfl, rfl, rfl, rfl, fun _ => ⟨rfl, rfl⟩, ⟨0, by omega, rfl⟩, ⟨0, by omega, rfl, rfl, fun i hi => by omega⟩, ⟨0, by omega, rfl⟩, fun _ => rfl⟩
    · intro d hd
      obtain ⟨w1, w2, w3, w4, w5, w6⟩ := dvd d hd
      obtain ⟨-, -, -, -, -, v6, v7⟩ := s3 d (by omega)
      rw [mA_F] at v6 v7
      rw [nI' (z + 17) (by omega) (by omega), nI' (z + 18) (by omega) (by omega), (e5 d hd).1, (e5 d hd).2, v6, v7, m1I _ (by omega), w1]
      exact ⟨rfl, rfl, w4, w4⟩
    · refine ⟨n1, h11', ?_, ⟨by omega, by omega⟩, n4, n5, n6, n7, ?_, ?_, ?_, ?_, ?_, ?_⟩
      · rw [m4R, m1R, if_pos ⟨rfl, rfl⟩]
      · rw [fI sm (by omega)]; exact n8
      · rw [sA 13 (by decide)]; exact n9
      · rw [fI sm (by omega)]; exact n10
      · rw [sA 18 (by decide)]; exact n11
      · rw [fI sm (by omega)]; exact n12
      · rw [sA 35 (by decide)]; exact n13
    · refine ⟨sm + 1, sm + 2, sm + 3, sm + 4, ?_, ?_, ?_, ?_, fun d hd => ?_⟩
      · exact ⟨by rw [fR sm (by omega)]; exact dv0.1, ⟨by omega, by omega⟩, by omega, i2, i3, i4⟩
      · exact ⟨by rw [fR sm (by omega)]; exact dv1.1, ⟨by omega, by omega⟩, by omega, dv1.2.1, by rw [dv1.2.2]; exact ndl, by rw [dv1.2.2]; omega⟩
      · exact ⟨by rw [fR sm (by omega)]; exact dv2.1, ⟨by omega, by omega⟩, by omega, dv2.2.1, by rw [dv2.2.2]; exact ndl, by rw [dv2.2.2]; omega⟩
      · exact ⟨by rw [fR sm (by omega)]; exact dv3.1, ⟨by omega, by omega⟩, by omega, dv3.2.1, by rw [dv3.2.2]; exact ndl, by rw [dv3.2.2]; omega⟩
      · rw [fL _ (by omega), fI _ (by omega), fI _ (by omega), fI _ (by omega), sL 14 (by decide), sA 15 (by decide), sA 16 (by decide), sA 17 (by decide)]
        exact ⟨i5 d hd, dvd d hd⟩
    · refine ⟨sm + 5, sm + 6, sm + 7, ?_, ?_, ?_, fun u hu => ⟨?_, ?_⟩, fun u v hu hv => ?_⟩
      · exact ⟨by rw [fR sm (by omega)]; exact rw4.1, ⟨by omega, by omega⟩, by omega, j2, j3, j4⟩
      · exact ⟨by rw [fR sm (by omega)]; exact rw5.1, ⟨by omega, by omega⟩, by omega, rw5.2.1, by rw [rw5.2.2]; exact nul, by rw [rw5.2.2]; omega⟩
      · exact ⟨by rw [fR sm (by omega)]; exact rw6.1, ⟨by omega, by omega⟩, by omega, rw6.2.1, by rw [rw6.2.2]; exact nul, by rw [rw6.2.2]; omega⟩
      · rw [fL _ (by omega), sL 19 (by decide)]; exact j5 u hu
      · obtain ⟨-, -, fl, p3⟩ := pu4
        obtain ⟨⟨tu, a1, a2, -⟩, -⟩ := p3 u hu
        exact ⟨tu, a1.1, UB.un a1 a2 hz (fun j hj => by rw [nI' (z + 11) (by omega) (by omega)]; exact e4 j hj) s4 (by omega)⟩
      · obtain ⟨w1, w2, -⟩ := lef u v (by omega) (by omega)
        rw [fI _ (by omega), sA 34 (by decide)]
        refine ⟨?_, w2⟩
        rcases w2 with y | y
        · rw [y]
          refine (bit0 (by omega)).mpr ?_
          cases q : bt (cI M (sm + 7) u) v with
          | false => rfl
          | true => have := w1.mp q; rw [y] at this; exact absurd this (by decide)
        · rw [y]
          exact (bit1 (by omega)).mpr (w1.mpr y)
    · refine ⟨sm + 8, sm + 9, ?_, ?_, fun d hd => ?_⟩
      · exact ⟨by rw [fR sm (by omega)]; exact rw7.1, ⟨by omega, by omega⟩, by omega, l2, l3, l4⟩
      · exact ⟨by rw [fR sm (by omega)]; exact rw8.1, ⟨by omega, by omega⟩, by omega, rw8.2.1, by rw [rw8.2.2]; exact nml, by rw [rw8.2.2]; omega⟩
      · rw [fL _ (by omega), sL 36 (by decide)]; exact l5 d hd
    · unfold SC NM1
      rw [sL 14 (by decide), sL 19 (by decide), sL 36 (by decide)]
      exact ⟨i6, j6, l6, trivial⟩
  · right
    have hrc : rc ≤ cc := by obtain ⟨g, pi, J, g1, -⟩ := cdf; exact rc_cc g1
    refine ⟨mk, rc, cc, ⟨⟨hrc, hcc, hk11⟩, ⟨by rw [fR sm (by omega)]; exact cr.2.2.2.2.1, cr.2.2.2.2.2.1, cr.2.2.2.2.2.2.2.2, cr.2.2.2.2.2.2.1, by rw [fI sm (by omega)]; exact cr.2.2.2.2.2.2.2.1⟩, by rw [fR sm (by omega)]; exact rw8.1, rw8.2.1, by rw [rw8.2.2]; exact nml, by rw [rw8.2.2]; omega⟩, pu4, dmd.pw hCL hRW n7 hk11, und.pw hCL hRW n6 hk11 pu, cdf.pw n6 (by omega) (fL _ (by omega)) (fun k j k1 k2 k3 k4 => hRW.1 k j (by omega) (by omega) k3 k4)⟩
end NEWREL
