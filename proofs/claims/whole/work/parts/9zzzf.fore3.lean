/-! foresee, the call -/
section FORE3
variable {z b st nd nu nm lim nh no c B0 N m : Nat} {K : Ka} {M M' M2 Mf Ma : Cm} {S S' S2 Ss Sa Sf : Ms}
theorem g_foresee (h0 : RelP z K M S b st nd nu nm) (rv0 : RV z b st nd nu nm K M S) (hob : HOB B0 S) (hB : B0 + 1000000 ≤ 1000000000) (hN : 1000000 < N) (v1 v2 : Int32) : ∃ M' S', fS_foresee N z v1 v2 K M S = some (K, M', S') ∧ RelP z K M' S' b st nd nu nm ∧ RV z b st nd nu nm K M' S' ∧ HOB B0 S' ∧ mF S' 64 = mF S 64 := by
  have h : RelP z K M (pF S 0 0) b st nd nu nm := h0.thr 0
  have rv := rv0.t0 h0 0
  have hob' : HOB B0 (pF S 0 0) := hob
  obtain ⟨q1, q2, q3, q4, q5, q6, q7⟩ := h.2.1
  have hL := h.1
  obtain ⟨g1, g2, g3, g4, g5, g6, g7, g8, -⟩ := h.2.2.2.2.2.2.2.2.2.2.2.2.1
  obtain ⟨r, c1, c2, c3⟩ := c_can h N v1 v2
  unfold fS_foresee fC_X8_foresee fM_foresee bC_X8_foresee_16 bM_foresee_21
  rw [gd_k hL.k9, gd_k hL.k9, c1, bs, c2, bs]
  dsimp only
  rcases c3 with rfl | ⟨rfl, d, n, d1, rfl, n1, n5, rfl⟩
  · rw [if_pos rfl, if_pos rfl, bs, bs]
    exact ⟨M, pF S 0 0, gd_t (beq_self_eq_true _), h, rv, hob', rfl⟩
  · rw [if_neg (show ¬ (1 : Int32) = 0 by decide), if_neg (show ¬ (1 : Int32) = 0 by decide), q5]
    by_cases s0 : mF (pF S 0 0) 64 = 0
    · rw [if_pos s0, if_pos s0, nn_s (hL.r0 2 8 (by decide)), nn_s (hL.r0 3 19 (by decide)), gd_k (hL.k 19 5 0 rfl), c_copyK hL N, bs]
      obtain ⟨S1, k1, k2, k3, k4, k5, k6⟩ := m_keep (N := N) (by omega) (pF S 0 0)
      rw [k1, bs]
      -- the state that is run
      have cr := (cpC_R z 20 9 M).1
      have hM1 : AgM (fun a => a < z + 20 ∨ z + 30 ≤ a) M (cpC z 20 9 M) := ⟨fun a ha => cpC_o M (by omega), fun _ _ => rfl, rfl⟩
      have hS1 : AgS (fun _ => True) (fun k => ¬ (102 ≤ k ∧ k ≤ 107)) (pF S 0 0) S1 := ⟨fun k _ => by rw [k2], fun k hk => k4 k hk, fun _ _ => by rw [k3]⟩
      have h1 : RelP z K (cpC z 20 9 M) S1 b st nd nu nm := by
        obtain ⟨o1, o2, o3, o4, o5, o6, o7, o8, o9, o10, o11, o12, o13, o14, o15, o16, o17, o18⟩ := h
        exact ⟨o1.sb hM1, o2.sb hM1 hS1 (by omega) ⟨trivial, trivial, trivial, trivial, trivial, trivial⟩, o3.sb hM1 hS1 (by omega) trivial (by decide), o4.sb hM1 hS1 (by omega) (by decide), o5.sb hM1 hS1 (by omega) trivial (by decide), o6.sb hM1 hS1 (by omega) trivial (by decide), o7.sb hM1 hS1 (by omega) ⟨trivial, trivial⟩ (by decide), o8.sb hM1 hS1 (by omega) ⟨trivial, trivial⟩ (by decide), o9.sb hM1 hS1 (by omega) trivial (by decide), o10.sb hM1 hS1 (by omega) trivial (by decide), o11.sb hM1 hS1 (by omega) (by decide), o12.sb hM1 hS1 (by omega) (by decide), o13.sb hM1 hS1 (fun a ha => by omega) trivial (by decide), o14.sb hM1 hS1 (fun a ha => by omega) (by decide), o15.sb hM1 hS1 (fun a ha => by omega) (by omega) (by decide) (by decide), o16.sb hM1 hS1 (fun a ha => by omega) (by decide), o17.sb hM1 hS1 (fun a ha => by omega) (fun k k1 k2 => by omega), o18⟩
      have rv1 : RV z b st nd nu nm K (cpC z 20 9 M) S1 :=
        ⟨cge_fr h (KE.rf K) (fun a a1 _ => hM1.1 a (by omega)) (fun _ _ _ => rfl) rfl (fun k k1 k2 => k4 k (by omega)) (by rw [k3]) rv.1, rv.2.1.ag (by rw [k2]) (fun k hk => k4 k (by omega)), rv.2.2.1.ag (fun k hk => k4 k (by omega)), rv.2.2.2.ag (by rw [k2]) (by rw [k2]) (k4 54 (by omega))⟩
      have hob1 : HOB B0 S1 := by
        obtain ⟨x, y, p1, p2, p3, p4⟩ := hob'
        exact ⟨x, y, by rw [k2]; exact p1, by rw [k2]; exact p2, p3, p4⟩
      have s1 : mF S1 64 = 0 := by rw [k2]; exact s0
      have hL1 := h1.1
      obtain ⟨nU, u1, u2, u3, u4⟩ := h1.2.2.2.2.2.1
      obtain ⟨nH, sH, w1, -, -, w4, w5, -⟩ := h1.2.2.2.2.2.2.1
      obtain ⟨nO, sO, x1, -, -, x4, x5, -⟩ := h1.2.2.2.2.2.2.2.1
      obtain ⟨Mf, e, Sf, y1, y2, e3, ⟨nh, no, nb1, nb2, dd⟩, -⟩ := run_dem h1 rv1 hob1 hB hN s1 d1 n1 n5
      have hf := dd.rel h1
      have gr := dd.2.2.2.2.2.2.2.1.2
      have hLf := hf.1
      obtain ⟨nF, f1, f2, f3, f4⟩ := hf.2.2.2.2.2.1
      obtain ⟨up1, up2⟩ := ups_24 g7 dd.2.2.2.1 gr u3 u1 f3 f1
      rw [nn_s (hL1.r0 4 30 (by decide)), gd_k (hL.k 30 1 0 rfl), nn_s (hL1.r0 4 30 (by decide)), gd_k (hL.k 30 1 0 rfl), nn_s (hL1.r0 4 30 (by decide)), gd_k (hL.k 30 1 0 rfl), nn_s (show cR (cpC z 20 9 M) z 7 = some st from g3), nn_s (hL1.r0 5 35 (by decide)), gd_k (hL.k 35 3 0 rfl), y1, bs, y2, bs, u2, w4, x4]
      have e75 : mF (pF S 0 0) 75 = nI nU := by rw [← k2]; exact u3
      have e79 : mF (pF S 0 0) 79 = nI nH := by rw [← k2]; exact w5
      have e84 : mF (pF S 0 0) 84 = nI nO := by rw [← k2]; exact x5
      rw [e75, e79, e84]
      have hLz : LY z K (wI Mf z 8 0) := hLf
      obtain ⟨k', M5, S5, l1, l2, ⟨l3, l4, l5, l6⟩, l7, l8, l9, l10, l11, l12, l13⟩ := fsr_lp (N := N) f1 (bC_X8_foresee_132 N K) (bM_foresee_102 N) (nI nU) (nI nH) (nI nO) (nI nU) (nI nH) (nI nO) (nF - nU) nU N N 0 (wI Mf z 8 0) (pF Sf 101 0) (by omega) (by omega) (by omega) (by omega) hLz (by rw [cI_wI_ne _ _ _ (by omega)]; exact f2) (by rw [mF_F, if_neg (by decide)]; exact f3) (fun j hj => by rw [cI_wI_ne _ _ _ (by omega), mA_F]; exact (f4 j hj).1) (by rw [cI_w, if_pos ⟨rfl, rfl⟩]; rfl) (by rw [mF_F, if_pos rfl]; rfl) (fun j hj => by omega)
      rw [l1, l2]
      have hL5 : LY z K M5 := ⟨hLf.1, by rw [l10]; exact hLz.2.1, by rw [l10]; exact hLz.2.2.1, hLf.2.2.2⟩
      obtain ⟨S6, t1, t2, t3, t4, t5, t6⟩ := m_back (N := N) (by omega) S5
      have hL6 : LY z K (cpC z 9 20 M5) := hL5
      unfold bC_X8_foresee_132 bM_foresee_102 fC_X0_cut
      rw [gd_k hL.k9, nn_s (hL5.r0 3 19 (by decide)), nn_s (hL5.r0 2 8 (by decide)), gd_k (hL.k 8 5 0 rfl), c_copyS hL5 N, bs, nn_s (hL6.r0 4 30 (by decide)), gd_k (hL.k 30 1 0 rfl), gd_k (hL.k 30 1 0 rfl), bs, bs, t1, bs, bs]
      dsimp only
      have C30 : ∀ a, a ≠ z + 30 → cI (wI (wI (wI (cpC z 9 20 M5) (z + 30) 4 (nI nU)) (z + 30) 5 (nI nH)) (z + 30) 6 (nI nO)) a = cI (cpC z 9 20 M5) a := fun a ha => by rw [cI_wI_ne _ _ _ ha, cI_wI_ne _ _ _ ha, cI_wI_ne _ _ _ ha]
      have cz8 : cI (wI (wI (wI (cpC z 9 20 M5) (z + 30) 4 (nI nU)) (z + 30) 5 (nI nH)) (z + 30) 6 (nI nO)) z 8 = nI k' := by rw [C30 _ (by omega), cpC_o M5 (by omega)]; exact l4
      have sz : mF (pF (pF (pF S6 75 (nI nU)) 79 (nI nH)) 84 (nI nO)) 101 = nI k' := by
        rw [mF_F, if_neg (by decide), mF_F, if_neg (by decide), mF_F, if_neg (by decide), t2]; exact l5
      rw [cz8, sz]
      have sg := dd.1
      have cb := cpC_at M5 (z := z) (D := 9) (E := 20) (by omega)
      have ca := cpC_at M (z := z) (D := 20) (E := 9) (by omega)
      -- the kept cells stand
      have kp : ∀ q, 20 ≤ q → q ≤ 29 → cI M5 (z + q) = cI (cpC z 20 9 M) (z + q) := fun q h1' h2' => by
        rw [l7 (z + q) (by omega) (by omega), cI_wI_ne _ _ _ (by omega), sg.1 (z + q) (by unfold stA; omega)]
      have fin := fo_rel (M' := wI (wI (wI (cpC z 9 20 M5) (z + 30) 4 (nI nU)) (z + 30) 5 (nI nH)) (z + 30) 6 (nI nO)) (S' := pF (pF (pF S6 75 (nI nU)) 79 (nI nH)) 84 (nI nO)) h1 rv1 hf sg dd.2.2.2.1 dd.2.2.2.2.2.2.2.1.1 gr (fun k hk => sg.2.2.2.2.1 k (by unfold stF; omega)) (n0 := nU) (h0 := nH) (o0 := nO) u1 u3 w5 x5 w1 x1
        (fun a a1 a2 a3 a4 a5 a6 a7 a8 a9 => by rw [C30 a a8, cpC_o M5 (by omega), l7 a a1 a9, cI_wI_ne _ _ _ a1])
        (fun s hs => by rw [C30 _ (by omega), cpC_o M5 (by omega), l8 s hs, cI_w, if_neg (fun w => hs w.2)])
        ⟨by rw [cI_w, if_neg (by omega), cI_w, if_neg (by omega), cI_w, if_pos ⟨rfl, rfl⟩], by rw [cI_w, if_neg (by omega), cI_w, if_pos ⟨rfl, rfl⟩], by rw [cI_w, if_pos ⟨rfl, rfl⟩], by rw [cI_w, if_neg (by omega), cI_w, if_neg (by omega), cI_w, if_neg (by omega), cpC_o M5 (by omega), l7 (z + 30) (by omega) (by omega), cI_wI_ne _ _ _ (by omega)]⟩
        (by show cL M5 = cL Mf; rw [l9]; rfl) (by show cR M5 = cR Mf; rw [l10]; rfl)
        ⟨fun j hj => ?_, fun j hj => ?_, fun j hj => ?_, fun j hj => ?_, fun j hj => ?_, fun j hj => ?_⟩
        ⟨fun k a1 a2 a3 a4 => by rw [mF_F, if_neg a3, mF_F, if_neg a2, mF_F, if_neg a1, t2, l11 k a4, mF_F, if_neg a4], by rw [mF_F, if_neg (by decide), mF_F, if_neg (by decide), mF_F, if_pos rfl], by rw [mF_F, if_neg (by decide), mF_F, if_pos rfl], by rw [mF_F, if_pos rfl]⟩
        (fun k a1 a2 a3 a4 a5 a6 a7 => by rw [mA_F, mA_F, mA_F, t4 k a1 a2 a3 a4 a5 a6, l12 k a7, mA_F])
        (by rw [mL_F, mL_F, mL_F, t3, l13, mL_F])
        ⟨fun j hj => ?_, fun j hj => ?_⟩
        ⟨k', l3, cz8, sz, fun j hj => ?_⟩
      · refine ⟨_, _, gd_t (beq_self_eq_true _), fin.1, fin.2, ?_, ?_⟩
        · obtain ⟨x, y, p1, p2, p3, p4⟩ := hob1
          have e1 : x = nH := (nI_eq (by omega) (by omega)).mp (p1.symm.trans w5)
          have e2 : y = nO := (nI_eq (by omega) (by omega)).mp (p2.symm.trans x5)
          exact ⟨nH, nO, by rw [mF_F, if_neg (by decide), mF_F, if_pos rfl], by rw [mF_F, if_pos rfl], by omega, by omega⟩
        · rw [mF_F, if_neg (by decide), mF_F, if_neg (by decide), mF_F, if_neg (by decide), t2, l11 64 (by decide), mF_F, if_neg (by decide), sg.2.2.2.2.1 64 (by unfold stF; omega), k2]
          rfl
      · rw [C30 _ (by omega), cb.1 j hj, kp 20 (by omega) (by omega), ca.1 j hj, hM1.1 (z + 9) (by omega)]
      · rw [C30 _ (by omega), cb.2.1 j hj, kp 22 (by omega) (by omega), ca.2.1 j hj, hM1.1 (z + 11) (by omega)]
      · rw [C30 _ (by omega), cb.2.2.1 j hj, kp 23 (by omega) (by omega), ca.2.2.1 j hj, hM1.1 (z + 12) (by omega)]
      · rw [C30 _ (by omega), cb.2.2.2.1 j hj, kp 24 (by omega) (by omega), ca.2.2.2.1 j hj, hM1.1 (z + 13) (by omega)]
      · rw [C30 _ (by omega), cb.2.2.2.2.1 j hj, kp 26 (by omega) (by omega), ca.2.2.2.2.1 j hj, hM1.1 (z + 15) (by omega)]
      · rw [C30 _ (by omega), cb.2.2.2.2.2 j hj, kp 29 (by omega) (by omega), ca.2.2.2.2.2 j hj, hM1.1 (z + 18) (by omega)]
      · rw [mA_F, mA_F, mA_F]
        have R : ∀ k, 102 ≤ k → k ≤ 107 → mA S5 k = mA S1 k := fun k a1 a2 => by rw [l12 k (by omega), mA_F, sg.2.2.2.2.2.1 k (by unfold stR; omega)]
        obtain ⟨z1, z2, z3, z4, z5⟩ := t5 j hj
        obtain ⟨v1, v2, v3, v4, v5⟩ := k5 j hj
        refine ⟨?_, ?_, ?_, ?_, ?_⟩
        · rw [z1, R 102 (by omega) (by omega), v1, k4 54 (by omega)]
        · rw [z2, R 104 (by omega) (by omega), v2, k4 57 (by omega)]
        · rw [z3, R 105 (by omega) (by omega), v3, k4 58 (by omega)]
        · rw [z4, R 106 (by omega) (by omega), v4, k4 60 (by omega)]
        · rw [z5, R 107 (by omega) (by omega), v5, k4 62 (by omega)]
      · rw [mA_F, mA_F, mA_F, t6 j hj, l12 103 (by omega), mA_F, sg.2.2.2.2.2.1 103 (by unfold stR; omega), k6 j hj, k4 56 (by omega)]
      · rw [C30 _ (by omega), cpC_o M5 (by omega), mA_F, mA_F, mA_F, t4 100 (by decide) (by decide) (by decide) (by decide) (by decide) (by decide)]
        exact l6 j hj
    · rw [if_neg s0, if_neg s0, bs, bs]
      exact ⟨M, pF S 0 0, gd_t (beq_self_eq_true _), h, rv, hob', rfl⟩
end FORE3
