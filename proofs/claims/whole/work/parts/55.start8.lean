/-! a new StationStarter: its cells -/
theorem LYk {n : Nat} {Lr : List (Nat × Nat × Nat)} {Li : List (Nat × Nat)} {Lz : List Nat} {z : Nat} {K : Ka} {M : Cm} (h : ST n Lr Li Lz z K M) (i : Nat) (c : Nat × Nat) (hi : i < n) (hc : lyK[i]? = some c) : kd K (z + i) = c.1 := (h.2.1 i c hi hc).1
theorem LY9 {n : Nat} {Lr : List (Nat × Nat × Nat)} {Li : List (Nat × Nat)} {Lz : List Nat} {z : Nat} {K : Ka} {M : Cm} (h : ST n Lr Li Lz z K M) (hi : 0 < n) : kd K z = 9 := (h.2.1 0 (9, 0) hi rfl).1
set_option maxRecDepth 100000 in
set_option maxHeartbeats 4000000 in
theorem f_X8 (N z : Nat) (hN : 136 < N) : ∃ (K' : Ka) (M' : Cm), fT_X8_init N z (kNew (K00 z) 9 0 (cN 8)) (mZ M00 z) = some (.inl (K', M')) ∧ kz K' = z + 100 ∧ ku K' ≤ 30000 ∧ LY z K' M' ∧ (∀ t ∈ ([(1, 5), (1, 6), (8, 10), (8, 11), (19, 10), (19, 11), (30, 4), (30, 5), (30, 6), (30, 7), (35, 11), (0, 8), (0, 9), (0, 10), (0, 11), (0, 12), (89, 10), (89, 11), (89, 12), (89, 13)] : List (Nat × Nat)), cI M' (z + t.1) t.2 = 0) ∧ (∀ i, 9 ≤ i → i ≤ 18 → ∀ j, cI M' (z + i) j = 0) ∧ (∀ j, cL M' (z + 6) j = kwT j) ∧ cR M' z 7 = some (z + 89) ∧ kd K' (z + 89) = 6 ∧ ∀ i c, (al5 0)[i]? = some c → kd K' (z + 90 + i) = c.2.1 ∧ le K' (z + 90 + i) = c.2.2 ∧ cR M' (z + 89) c.1 = some (z + 90 + i) := by
  generalize hK0 : kNew (K00 z) 9 0 (cN 8) = K0
  generalize hM0 : mZ M00 z = M0
  have z0 : kz K0 = z + 1 := by rw [← hK0]; rfl
  have u0 : ku K0 = 13 := by rw [← hK0]; rfl
  have S0 : ST 1 [] [] [] z K0 M0 := by
    refine ⟨z0, fun i c hi hc => ?_, fun t ht => ?_, fun t ht => ?_, fun t ht => ?_⟩
    · have e : i = 0 := by omega
      subst e
      cases hc
      refine ⟨?_, fun z => absurd z (by decide)⟩
      rw [← hK0]
      exact kd_new (K00 z) 9 0 (cN 8)
    · cases ht
    · cases ht
    · cases ht
  unfold fT_X8_init bT_X8_init_8
  -- the tape
  obtain ⟨K1, M1, e1, B1, t5, t6, tk⟩ := f_X6 N (kz K0) (kNew K0 7 0 (cN 6)) (mZ M0 (kz K0)) ⟨kd_new _ _ _ _, by rw [kz_n]; omega⟩ hN
  rw [e1, ta_s]
  dsimp only
  have u1 := B1.2.1
  rw [kz_n, z0] at tk
  rw [z0] at B1 t5 t6 ⊢
  have S1 := (((S0.nw 7 (cN 6) al6 (by rw [z0]; exact B1.e) rfl (by decide) (by decide) rfl rfl rfl).i0 (o := 1) t5).i0 (o := 1) t6).wr 0 0 1 (by decide)
  unfold bT_X8_init_12
  rw [gd_k (c := 9) (LY9 S1 (by decide))]
  -- the reader
  unfold bT_X8_init_19
  have z1 : kz K1 = z + 7 := S1.1
  have k9 : kd (kNew K1 4 0 (cN 3)) z = 9 := (kd_newo _ _ _ _ (by omega)).trans (LY9 S1 (by decide))
  rw [gd_k k9, nn_s (a := z + 1) (by rw [cR_z, if_neg (by omega), cR_w, if_pos ⟨rfl, rfl⟩])]
  obtain ⟨M2, e2, B2, r2⟩ := f_X3 N (kz K1) (z + 1) (kNew K1 4 0 (cN 3)) (mZ (wR M1 z 0 (some (z + 1))) (kz K1)) (kd_new _ _ _ _)
  rw [e2, ta_s]
  dsimp only
  have S2 := ((S1.nw 4 (cN 3) [] (by rw [z1] at B2 ⊢; exact B2) rfl (by decide) (by decide) rfl rfl rfl).rf (o := 7) (s := 0) (p := 1) (by rw [z1] at r2; exact r2)).wr 0 1 7 (by decide)
  have l2 : ∀ j, cL M2 (z + 6) j = kwT j := fun j => by
    rw [(B2.2.2.2.2.1 (z + 6) (by rw [kz_n]; omega) (by omega)).2.1, cL_mZ _ (by omega)]
    exact tk j
  have u2 := B2.2.1
  generalize hK2 : kNew K1 4 0 (cN 3) = K2 at S2 B2 ⊢
  have w2 : ku K2 = ku K1 + 6 := by rw [← hK2]; rfl
  rw [z1] at ⊢
  unfold bT_X8_init_27
  rw [gd_k (c := 9) (LY9 S2 (by decide))]
  -- the state
  unfold bT_X8_init_34
  have z2 : kz K2 = z + 8 := S2.1
  obtain ⟨K3, M3, e3, B3, s10, s11⟩ := f_X4 N (kz K2) (kNew K2 5 0 (cN 4)) (mZ (wR M2 z 1 (some (z + 7))) (kz K2)) ⟨kd_new _ _ _ _, by rw [kz_n]; omega⟩
  rw [e3, ta_s]
  dsimp only
  have S3 := (((S2.nw 5 (cN 4) al4 (by rw [z2] at B3 ⊢; exact B3.e) rfl (by decide) (by decide) (by decide) (by decide) (by decide)).i0 (o := 8) (s := 10) (by rw [z2] at s10; exact s10)).i0 (o := 8) (s := 11) (by rw [z2] at s11; exact s11)).wr 0 2 8 (by decide)
  have l3 : ∀ j, cL M3 (z + 6) j = kwT j := fun j => by
    rw [(B3.2.2.2.2.1 (z + 6) (by rw [kz_n]; omega) (by omega)).2.1, cL_mZ _ (by omega)]
    exact l2 j
  have u3 := B3.2.1
  rw [z2] at ⊢
  unfold bT_X8_init_38
  rw [gd_k (c := 9) (LY9 S3 (by decide))]
  -- the kept state
  unfold bT_X8_init_45
  have z3 : kz K3 = z + 19 := S3.1
  obtain ⟨K4, M4, e4, B4, q10, q11⟩ := f_X4 N (kz K3) (kNew K3 5 0 (cN 4)) (mZ (wR M3 z 2 (some (z + 8))) (kz K3)) ⟨kd_new _ _ _ _, by rw [kz_n]; omega⟩
  rw [e4, ta_s]
  dsimp only
  have S4 := (((S3.nw 5 (cN 4) al4 (by rw [z3] at B4 ⊢; exact B4.e) rfl (by decide) (by decide) (by decide) (by decide) (by decide)).i0 (o := 19) (s := 10) (by rw [z3] at q10; exact q10)).i0 (o := 19) (s := 11) (by rw [z3] at q11; exact q11)).wr 0 3 19 (by decide)
  have l4 : ∀ j, cL M4 (z + 6) j = kwT j := fun j => by
    rw [(B4.2.2.2.2.1 (z + 6) (by rw [kz_n]; omega) (by omega)).2.1, cL_mZ _ (by omega)]
    exact l3 j
  have u4 := B4.2.1
  rw [z3] at ⊢
  unfold bT_X8_init_49
  rw [gd_k (c := 9) (LY9 S4 (by decide))]
  -- the books
  unfold bT_X8_init_56
  have z4 : kz K4 = z + 30 := S4.1
  obtain ⟨K5, M5, e5, B5, v4, v5, v6, v7⟩ := f_X0 N (kz K4) (kNew K4 1 0 (cN 0)) (mZ (wR M4 z 3 (some (z + 19))) (kz K4)) ⟨kd_new _ _ _ _, by rw [kz_n]; omega⟩
  rw [e5, ta_s]
  dsimp only
  rw [z4] at v4 v5 v6 v7
  have S5 := (((((S4.nw 1 (cN 0) al0 (by rw [z4] at B5 ⊢; exact B5.e) rfl (by decide) (by decide) (by decide) (by decide) (by decide)).i0 (o := 30) v4).i0 (o := 30) v5).i0 (o := 30) v6).i0 (o := 30) v7).wr 0 4 30 (by decide)
  have l5 : ∀ j, cL M5 (z + 6) j = kwT j := fun j => by
    rw [(B5.2.2.2.2.1 (z + 6) (by rw [kz_n]; omega) (by omega)).2.1, cL_mZ _ (by omega)]
    exact l4 j
  have u5 := B5.2.1
  rw [z4] at ⊢
  unfold bT_X8_init_60
  rw [gd_k (c := 9) (LY9 S5 (by decide))]
  -- the machine
  unfold bT_X8_init_67
  have z5 : kz K5 = z + 35 := S5.1
  have k95 : kd (kNew K5 3 0 (cN 2)) z = 9 := (kd_newo _ _ _ _ (by omega)).trans (LY9 S5 (by decide))
  have r54 : cR (wR M5 z 4 (some (z + 30))) z 4 = some (z + 30) := by rw [cR_w, if_pos ⟨rfl, rfl⟩]
  have r52 : cR (wR M5 z 4 (some (z + 30))) z 2 = some (z + 8) := S5.2.2.1 (0, 2, 8) (by decide)
  rw [gd_k k95, nn_s (a := z + 30) (by rw [cR_z, if_neg (by omega)]; exact r54), nn_s (a := z + 8) (by rw [cR_z, if_neg (by omega)]; exact r52)]
  obtain ⟨K6, M6, e6, y1, y2, y3, y4, y5, y6, y7, y8, y9, y10, y11, y12, y13, y14⟩ := f_X2 N (kz K5) (z + 8) (z + 30) (kNew K5 3 0 (cN 2)) (mZ (wR M5 z 4 (some (z + 30))) (kz K5)) (kd_new _ _ _ _) (by rw [kz_n]) (by omega)
  rw [e6, ta_s]
  dsimp only
  rw [z5] at y1 y3 y4 y5 y6 y7 y8 y9 y10 y11 y12 y13 y14 ⊢
  -- how it stands
  have ok6 : ∀ i c, i < 35 → lyK[i]? = some c → kd K6 (z + i) = c.1 ∧ (20 < c.1 → le K6 (z + i) = c.2) := fun i c hi hc => by
    obtain ⟨q1, q2⟩ := y3 (z + i) (by omega)
    rw [q1, q2, kd_newo _ _ _ _ (by omega), le_newo _ _ _ _ (by omega)]
    exact S5.2.1 i c hi hc
  have om6 : ∀ a, a < z + 35 → cI M6 a = cI M5 a ∧ cL M6 a = cL M5 a ∧ cR M6 a = cR (wR M5 z 4 (some (z + 30))) a := fun a ha => by
    obtain ⟨q1, q2, q3⟩ := y4 a ha
    exact ⟨q1.trans (cI_mZ _ (by omega)), q2.trans (cL_mZ _ (by omega)), q3.trans (cR_mZ _ (by omega))⟩
  have k69 : kd K6 z = 9 := (ok6 0 (9, 0) (by decide) rfl).1
  have k635 : kd K6 (z + 35) = 3 := by rw [(y3 (z + 35) (by omega)).1, kd_n, if_pos z5.symm]
  unfold bT_X8_init_79
  rw [gd_k k69, gd_t (by decide)]
  have e24 : (24 : Int32).toNatClampNeg = 24 := by decide
  rw [e24, y1]
  -- the units foreseen
  unfold bT_X8_init_87
  have k79 : kd (kNew K6 22 24 24) z = 9 := (kd_newo _ _ _ _ (by omega)).trans k69
  rw [gd_k k79]
  -- the station
  unfold bT_X8_init_94
  have z7 : kz (kNew K6 22 24 24) = z + 89 := by rw [kz_n, y1]
  obtain ⟨K8, M8, e8, B8, c10, c11, c12, c13⟩ := f_X5 N (kz (kNew K6 22 24 24)) 0 (kNew (kNew K6 22 24 24) 6 0 (cN 5)) (mZ (wR (mZ (wR M6 z 5 (some (z + 35))) (z + 35 + 53)) z 6 (some (z + 35 + 53))) (kz (kNew K6 22 24 24))) (by omega) ⟨kd_new _ _ _ _, Nat.lt_succ_self _⟩
  replace e8 : fT_X5_init N (kz (kNew K6 22 24 24)) 0 (kNew (kNew K6 22 24 24) 6 0 (cN 5)) (mZ (wR (mZ (wR M6 z 5 (some (z + 35))) (z + 35 + 53)) z 6 (some (z + 35 + 53))) (kz (kNew K6 22 24 24))) = some (.inl (K8, M8)) := e8
  rw [e8, ta_s]
  dsimp only
  have u8 := B8.2.1
  obtain ⟨b1, -, b3, b4, b5, b6, -⟩ := B8
  rw [kz_n, z7] at b1 b3 b4 b5
  rw [z7] at c10 c11 c12 c13 ⊢
  have ok8 : ∀ a, a < z + 88 → kd K8 a = kd K6 a ∧ le K8 a = le K6 a := fun a ha => by
    obtain ⟨q1, q2⟩ := b3 a (by omega)
    rw [q1, q2, kd_newo _ _ _ _ (by omega), le_newo _ _ _ _ (by omega), kd_newo _ _ _ _ (by omega), le_newo _ _ _ _ (by omega)]
    exact ⟨rfl, rfl⟩
  have om8 : ∀ a, a < z + 88 → cI M8 a = cI M6 a ∧ cL M8 a = cL M6 a ∧ (a ≠ z → cR M8 a = cR M6 a) := fun a ha => by
    obtain ⟨q1, q2, q3⟩ := b5 a (by omega) (by omega)
    refine ⟨?_, ?_, fun hne => ?_⟩
    · rw [q1, cI_mZ _ (by omega), cI_R, cI_mZ _ (by omega), cI_R]
    · rw [q2, cL_mZ _ (by omega), cL_R, cL_mZ _ (by omega), cL_R]
    · rw [q3, cR_mZ _ (by omega), cR_wR_ne _ _ _ hne, cR_mZ _ (by omega), cR_wR_ne _ _ _ hne]
  have rz8 : ∀ k, cR M8 z k = if k = 6 then some (z + 88) else if k = 5 then some (z + 35) else cR M6 z k := fun k => by
    rw [(b5 z (by omega) (by omega)).2.2, cR_mZ _ (by omega), cR_w, cR_z, if_neg (show ¬ z = z + 35 + 53 by omega), cR_w]
    simp
  have k89 : kd K8 z = 9 := (ok8 z (by omega)).1.trans k69
  unfold bT_X8_init_99
  rw [gd_k k89, gd_k k89, gd_t (by decide)]
  have ku8 : ku K8 ≤ 30000 := by
    have a1 : (al6.map (fun c => c.2.2)).sum = 16028 := by decide
    have a4 : (al4.map (fun c => c.2.2)).sum = 960 := by decide
    have a0 : (al0.map (fun c => c.2.2)).sum = 3680 := by decide
    have a5 : ((al5 0).map (fun c => c.2.2)).sum = 17 := by decide
    rw [a1, ku_n] at u1
    rw [a4, ku_n] at u3 u4
    rw [a0, ku_n] at u5
    rw [a5, ku_n, ku_n] at u8
    rw [ku_n] at y2
    have c6 : cN 6 = 7 := rfl
    have c4 : cN 4 = 12 := rfl
    have c0 : cN 0 = 8 := rfl
    have c2 : cN 2 = 17 := rfl
    have c5 : cN 5 = 14 := rfl
    omega
  have hlen : (al5 0).length = 10 := rfl
  refine ⟨K8, _, rfl, by rw [b1, hlen], ku8, ⟨fun i c hc => ?_, fun t ht => ?_, fun k hk => ?_, ?_, ?_⟩, fun t ht => ?_, fun i h1 h2 j => ?_, fun j => ?_, ?_, ?_, fun i c hc => ?_⟩
  · have hi : i < 38 := (List.getElem?_eq_some_iff.mp hc).1
    rw [(ok8 (z + i) (by omega)).1, (ok8 (z + i) (by omega)).2]
    by_cases h35 : i < 35
    · exact ok6 i c h35 hc
    · rcases (show i = 35 ∨ i = 36 ∨ i = 37 by omega) with rfl | rfl | rfl
      · cases hc; exact ⟨k635, fun z => absurd z (by decide)⟩
      · cases hc; exact ⟨y5, fun _ => y6⟩
      · cases hc; exact ⟨y7, fun _ => y8⟩
  · rw [cR_I, cR_I, cR_I, cR_I, cR_I]
    have hR5 := S5.2.2.1
    have key : (t.1 = 0 ∧ t.2.1 = 5 ∧ t.2.2 = 35) ∨ (t.1 = 0 ∧ t.2.1 = 6 ∧ t.2.2 = 88) ∨ (t.1 = 35) ∨ (t.1 < 35 ∧ (t.1 = 0 → t.2.1 < 5) ∧ t ∈ lyR.take 35) := by
      revert t
      decide
    rcases key with ⟨a, b, c⟩ | ⟨a, b, c⟩ | a | ⟨a, b, c⟩
    · rw [a, b, c, cR_w, if_neg (by omega)]
      show cR M8 z 5 = _
      rw [rz8]; rfl
    · rw [a, b, c, cR_w, if_neg (by omega)]
      show cR M8 z 6 = _
      rw [rz8]; rfl
    · have hm : t = (35, 0, 8) ∨ t = (35, 1, 30) ∨ t = (35, 2, 36) ∨ t = (35, 3, 37) := by
        revert t
        decide
      rw [cR_wR_ne _ _ _ (by omega), (om8 (z + t.1) (by omega)).2.2 (by omega)]
      rcases hm with rfl | rfl | rfl | rfl
      · exact y9
      · exact y10
      · exact y11
      · exact y12
    · rw [cR_w, if_neg (by omega)]
      have h6 : cR M6 (z + t.1) t.2.1 = some (z + t.2.2) := by
        rw [(om6 (z + t.1) (by omega)).2.2]
        exact hR5 t (by revert t; decide)
      by_cases h0 : t.1 = 0
      · rw [h0] at h6 ⊢
        show cR M8 z t.2.1 = _
        have hb := b h0
        rw [rz8, if_neg (by omega), if_neg (by omega)]
        exact h6
      · rw [(om8 (z + t.1) (by omega)).2.2 (by omega)]
        exact h6
  · rw [cR_I, cR_I, cR_I, cR_I, cR_I, cR_wR_ne _ _ _ (by omega), cR_wR_ne _ _ _ (by omega), (om8 (z + 36) (by omega)).2.2 (by omega), (om8 (z + 38 + 2 * k) (by omega)).2.2 (by omega), (ok8 (z + 38 + 2 * k) (by omega)).1, (ok8 (z + 38 + 2 * k + 1) (by omega)).1, (ok8 (z + 38 + 2 * k + 1) (by omega)).2]
    exact y14 k hk
  · rw [(b3 (z + 88) (by omega)).1, kd_newo _ _ _ _ (by omega), kd_n, if_pos y1.symm]
  · rw [(b3 (z + 88) (by omega)).2, le_newo _ _ _ _ (by omega), le_n, if_pos y1.symm]
  · have key : (t.1 = 0 ∧ 8 ≤ t.2 ∧ t.2 ≤ 12) ∨ (t.1 = 89 ∧ (t.2 = 10 ∨ t.2 = 11 ∨ t.2 = 12 ∨ t.2 = 13)) ∨ t = (35, 11) ∨ (t.1 < 35 ∧ 0 < t.1 ∧ t ∈ [(1, 5), (1, 6), (8, 10), (8, 11), (19, 10), (19, 11), (30, 4), (30, 5), (30, 6), (30, 7)]) := by
      revert t
      decide
    simp only [cI_w, cI_R]
    rcases key with ⟨a, b, c⟩ | ⟨a, b⟩ | rfl | ⟨a, b, c⟩
    · rw [a]
      have hd : t.2 = 8 ∨ t.2 = 9 ∨ t.2 = 10 ∨ t.2 = 11 ∨ t.2 = 12 := by omega
      rcases hd with e | e | e | e | e <;> rw [e] <;> simp
    · rw [a]
      have hne : ¬ z + 89 = z := by omega
      simp only [hne, false_and, if_false]
      rcases b with e | e | e | e <;> rw [e]
      · exact c10
      · exact c11
      · exact c12
      · exact c13
    · have hne : ¬ z + 35 = z := by omega
      simp only [hne, false_and, if_false]
      rw [(om8 (z + 35) (by omega)).1]
      exact y13
    · have hne : ¬ z + t.1 = z := by omega
      simp only [hne, false_and, if_false]
      rw [(om8 (z + t.1) (by omega)).1, (om6 (z + t.1) (by omega)).1]
      exact S5.2.2.2.1 t c
  · have hne : z + i ≠ z := by omega
    rw [cI_wI_ne _ _ _ hne, cI_wI_ne _ _ _ hne, cI_wI_ne _ _ _ hne, cI_wI_ne _ _ _ hne, cI_wI_ne _ _ _ hne, cI_R, (om8 (z + i) (by omega)).1, (om6 (z + i) (by omega)).1]
    exact S5.2.2.2.2 i (by
      have hd : i = 9 ∨ i = 10 ∨ i = 11 ∨ i = 12 ∨ i = 13 ∨ i = 14 ∨ i = 15 ∨ i = 16 ∨ i = 17 ∨ i = 18 := by omega
      rcases hd with e | e | e | e | e | e | e | e | e | e <;> rw [e] <;> decide) j
  · rw [cL_I, cL_I, cL_I, cL_I, cL_I, cL_R, (om8 (z + 6) (by omega)).2.1, (om6 (z + 6) (by omega)).2.1]
    exact l5 j
  · rw [cR_I, cR_I, cR_I, cR_I, cR_I, cR_w, if_pos ⟨rfl, rfl⟩]
  · rw [(b3 (z + 89) (by omega)).1, kd_n, if_pos z7.symm]
  · obtain ⟨q1, q2, q3⟩ := b4 i c hc
    rw [cR_I, cR_I, cR_I, cR_I, cR_I, cR_wR_ne _ _ _ (by omega)]
    exact ⟨q1, q2, q3⟩
