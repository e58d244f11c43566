/-! a text's start, by both -/
/-- the reference's rows of leans cleared -/
theorem cl_lp (N : Nat) (k102 : Ms → Option (Int32 × Ms)) {bn : Nat} (hb : bn < 2) (S0 : Ms) : ∀ (n i : Nat) (S : Ms), i ≤ 576 → 576 < n + i → mF S = mF S0 → mL S = mL S0 → (∀ k, k ≠ 34 → mA S k = mA S0 k) → (∀ j, ¬ (576 * bn ≤ j ∧ j < 576 * bn + 576) → mA S 34 j = mA S0 34 j) → mF S0 12 = nI bn → (∀ j, j < i → mA S 34 (576 * bn + j) = 0) →
    ∃ S', lM_station_73 N k102 n (nI i) S = k102 S' ∧ mF S' = mF S0 ∧ mL S' = mL S0 ∧ (∀ k, k ≠ 34 → mA S' k = mA S0 k) ∧ (∀ j, ¬ (576 * bn ≤ j ∧ j < 576 * bn + 576) → mA S' 34 j = mA S0 34 j) ∧ ∀ j, j < 576 → mA S' 34 (576 * bn + j) = 0 := by
  intro n
  induction n with
  | zero => intro i S h1 h2; omega
  | succ n ih =>
    intro i S h1 h2 g1 g2 g3 g4 h12 hz
    rw [lM_station_73]
    by_cases hi : i < 576
    · have e : (576 : Int32) * mF S 12 + nI i = nI (576 * bn + i) := by rw [g1, h12, show (576 : Int32) = nI 576 from rfl, nI_mul, nI_add]
      rw [if_neg (show ¬ (576 : Int32) ≤ nI i from nI_ge (b := 576) hi (by decide)), e, ck_n (by omega) (by decide), nI_clamp (by omega), nI_1]
      refine ih (i + 1) _ (by omega) (by omega) (by rw [mF_A]; exact g1) (by rw [mL_A]; exact g2) (fun k hk => by rw [mA_Ane _ _ _ hk]; exact g3 k hk) (fun j hj => ?_) h12 (fun j hj => ?_)
      · rw [mA_A, if_neg (fun q => hj (by omega))]; exact g4 j hj
      · rw [mA_A]
        by_cases w : j = i
        · subst w; rw [if_pos ⟨rfl, rfl⟩]; rfl
        · rw [if_neg (fun q => w (by omega))]; exact hz j (by omega)
    · have e : i = 576 := by omega
      subst e
      rw [if_pos (show (576 : Int32) ≤ nI 576 by decide)]
      exact ⟨S, rfl, g1, g2, g3, g4, hz⟩
section START
variable {z b size t : Nat} {K : Ka} {M : Cm} {S : Ms}
/-- the state at a text's start -/
theorem ts_0 (hLY : LY z K M) (hz : z + 174 ≤ kz K) (hb : b = 0 ∨ b = 1) (h11 : mF S 11 = nI b) (tk : TK z M S size t) (hk : ∀ j, mL S 10 j = kwT j) (N : Nat) (hN : 600 < N) :
    ∃ K2 M2 S2, fT_X3_make N (z + 7) K M = lT_X3_make_25 N (bT_X3_make_136 N) N (z + 7) 0 K2 M2 ∧
      (∀ S1, fM_cutAll N (pF S1 0 0) = some S → fM_station N S1 = lM_station_102 N (bM_station_192 N) N S2) ∧ AgA z K M M2 ∧ AgO b S S2 ∧ TS z b (1 - b) (kz K) size t K K2 M2 S2 0 0 0 [] 0 0 0 := by
  obtain ⟨q1, q2, q3, q4, q5, q6, q7, q8, q9, q10, q11, q12⟩ := tk
  generalize hbn : 1 - b = bn
  have hb2 : bn < 2 := by omega
  have k7 : kd K (z + 7) = 4 := hLY.k 7 4 0 rfl
  have k1 : kd K (z + 1) = 7 := hLY.k 1 7 0 rfl
  have r70 : cR M (z + 7) 0 = some (z + 1) := hLY.r 7 0 1 (by decide)
  generalize hK1 : kNew K 6 0 (cN 5) = K1
  generalize hM1 : mZ M (kz K) = M1
  have z1 : kz K1 = kz K + 1 := by rw [← hK1, kz_n]
  have u1 : ku K1 = ku K + 14 := by rw [← hK1, ku_n]; rfl
  have ko : ∀ a, a < kz K → kd K1 a = kd K a ∧ le K1 a = le K a := fun a ha => by rw [← hK1]; exact ⟨kd_newo _ _ _ _ (by omega), le_newo _ _ _ _ (by omega)⟩
  have kn : kd K1 (kz K) = 6 := by rw [← hK1, kd_new]
  have mo : ∀ a, a < kz K → cI M1 a = cI M a ∧ cL M1 a = cL M a ∧ cR M1 a = cR M a := fun a ha => by rw [← hM1]; exact ⟨cI_mZ _ (by omega), cL_mZ _ (by omega), cR_mZ _ (by omega)⟩
  obtain ⟨K2, M2, f1, ⟨d1, d2, d3, d4, d5, d6, d7⟩, c10, c11, c12, c13⟩ := f_X5 N (kz K) (t + 1) K1 M1 (by omega) ⟨kn, by omega⟩
  have l10 : (al5 (t + 1)).length = 10 := rfl
  rw [l10] at d1 d6
  have KE2 : KE K K2 := ⟨by omega, fun a ha => ⟨(d3 a (by omega)).1.trans (ko a ha).1, (d3 a (by omega)).2.trans (ko a ha).2⟩⟩
  have k6 : kd K2 (kz K) = 6 := (d3 _ (by omega)).1.trans kn
  have o2 : ∀ a, a < kz K → cI M2 a = cI M a ∧ cL M2 a = cL M a ∧ cR M2 a = cR M a := fun a ha => by
    obtain ⟨w1, w2, w3⟩ := d5 a (by omega) (by omega)
    obtain ⟨v1, v2, v3⟩ := mo a ha
    exact ⟨w1.trans v1, w2.trans v2, w3.trans v3⟩
  have rn : ∀ i c, (al5 (t + 1))[i]? = some c → kd K2 (kz K + 1 + i) = c.2.1 ∧ le K2 (kz K + 1 + i) = c.2.2 ∧ cR M2 (kz K) c.1 = some (kz K + 1 + i) := fun i c hc => by
    have := d4 i c hc
    rw [z1] at this
    exact this
  generalize hM3 : wR M2 (z + 7) 1 (some (kz K)) = M3
  have m3I : ∀ a, cI M3 a = cI M2 a := fun a => by rw [← hM3]; rfl
  have m3L : ∀ a, cL M3 a = cL M2 a := fun a => by rw [← hM3]; rfl
  have m3R : ∀ a sl, cR M3 a sl = if a = z + 7 ∧ sl = 1 then some (kz K) else cR M2 a sl := fun a sl => by rw [← hM3, cR_w]
  have ag3 : AgA z K M M3 := ⟨fun a ha hne => by rw [m3I, m3L]; exact ⟨(o2 a ha).1, (o2 a ha).2.1⟩, fun a sl ha hne => by rw [m3R, if_neg hne, (o2 a ha).2.2]⟩
  have LY3 : LY z K2 M3 := hLY.old KE2 ag3 hz
  have T0 : TKS z M S size t := ⟨q1, q2, q3, q4, q5, q6, q7, q12⟩
  have TS3 : TKS z M3 S size t := by
    have e1 := (ag3.1 (z + 1) (by omega) (by omega)).1
    have e3 := (ag3.1 (z + 3) (by omega) (by omega)).1
    have e4 := (ag3.1 (z + 4) (by omega) (by omega)).1
    have e5 := (ag3.1 (z + 5) (by omega) (by omega)).2
    unfold TKS TK1
    rw [e1, e3, e4, e5]
    exact T0
  -- the reference
  generalize hS2 : pF (pF (pF (pA (pA (pA (pF S 12 (nI bn)) 13 bn 0) 18 bn 0) 35 bn 0) 38 0) 42 (nI (10000 * bn))) 48 0 = S2
  have F12 : mF S2 12 = nI bn := by rw [← hS2]; rfl
  obtain ⟨S3, s1, s2, s3, s4, s5, s6⟩ := cl_lp N (lM_station_102 N (bM_station_192 N) N) hb2 S2 N 0 S2 (by omega) (by omega) rfl rfl (fun _ _ => rfl) (fun _ _ => rfl) F12 (fun j hj => by omega)
  have mF2 : ∀ k, k ≠ 12 → k ≠ 38 → k ≠ 42 → k ≠ 48 → mF S2 k = mF S k := fun k w1 w2 w3 w4 => by
    rw [← hS2, mF_F, if_neg w4, mF_F, if_neg w3, mF_F, if_neg w2]
    simp only [mF_A]
    rw [mF_F, if_neg w1]
  have mA2 : ∀ k, k ≠ 13 → k ≠ 18 → k ≠ 35 → mA S2 k = mA S k := fun k w1 w2 w3 => by
    rw [← hS2]
    simp only [mA_F]
    rw [mA_Ane _ _ _ w3, mA_Ane _ _ _ w2, mA_Ane _ _ _ w1, mA_F]
  have mL2 : mL S2 = mL S := by rw [← hS2]; rfl
  have cc0 : fC_X3_moveTo N K2 (z + 7) 0 M3 = some (mv z M3 0) := mv_ok LY3 TS3 N (j := 0) (by omega)
  have agv : AgA z K M (mv z M3 0) := ag3.tr ⟨fun a _ hne => ⟨mv_I 0 hne, rfl⟩, fun _ _ _ _ => rfl⟩
  have ao : AgO b S S3 := by
    have w1 : AgO b S S2 := by
      rw [← hS2]
      have p : ∀ k, bw k = 1 → ¬ OB b k bn := fun k hk => ob_n (w := 1) hb hbn.symm hk (by decide) (by omega) (by omega)
      exact ((((((AgO.pF (by unfold OF; decide) _).tr (AgO.pA (p 13 rfl) _)).tr (AgO.pA (p 18 rfl) _)).tr (AgO.pA (p 35 rfl) _)).tr (AgO.pF (by unfold OF; decide) _)).tr (AgO.pF (by unfold OF; decide) _)).tr (AgO.pF (by unfold OF; decide) _)
    refine w1.tr ⟨fun k _ => by rw [s2], fun k j hj => ?_, fun k j _ => by rw [s3]⟩
    by_cases e : k = 34
    · subst e
      exact s5 j (fun q => ob_n (k := 34) (w := 576) hb hbn.symm rfl (by decide) q.1 q.2 hj)
    · rw [s4 k e]
  refine ⟨K2, mv z M3 0, S3, ?_, fun S1 hc => ?_, agv, ao, ?_⟩
  · have e : fT_X3_make N (z + 7) K M = bT_X3_make_4 N (z + 7) (z + 7) (kz K) K1 M1 := by unfold fT_X3_make; rw [hK1, hM1]
    rw [e]
    unfold bT_X3_make_4 bT_X3_make_15
    rw [gd_k (by rw [(ko _ (by omega)).1]; exact k7), nn_s (by rw [(mo _ (by omega)).2.2]; exact r70), gd_k (by rw [(ko _ (by omega)).1]; exact k1), (mo (z + 1) (by omega)).1, q3, f1]
    show gd (kd K2 (z + 7) == 4) _ = _
    rw [gd_k (LY3.k 7 4 0 rfl), gd_k (LY3.k 7 4 0 rfl), hM3, cc0, bs]
  · unfold fM_station
    rw [hc, bs]
    have e12 : (1 : Int32) - mF S 11 = nI bn := by
      rw [h11, ← hbn]
      rcases hb with rfl | rfl <;> rfl
    have e10 : (10000 : Int32) * nI bn = nI (10000 * bn) := by rw [show (10000 : Int32) = nI 10000 from rfl, nI_mul]
    simp only [mF_A, mF_F, if_true, e12, nI_clamp (show bn < 2 ^ 31 by omega), if_neg (show ¬ (12 : Nat) = 38 by decide), e10, hS2, ck_n hb2 (show 2 < 2 ^ 31 by decide)]
    exact s1
  · -- the state
    have vI : ∀ a, a ≠ z + 7 → cI (mv z M3 0) a = cI M2 a := fun a ha => by rw [mv_I 0 ha, m3I]
    have vR : ∀ a sl, a ≠ z + 7 → cR (mv z M3 0) a sl = cR M2 a sl := fun a sl ha => by
      show cR M3 a sl = _
      rw [m3R, if_neg (fun q => ha q.1)]
    have v71 : cR (mv z M3 0) (z + 7) 1 = some (kz K) := by
      show cR M3 (z + 7) 1 = _
      rw [m3R, if_pos ⟨rfl, rfl⟩]
    have LYv : LY z K2 (mv z M3 0) := hLY.old KE2 agv hz
    have hks : z + 174 ≤ kz K := hz
    have m9 : min ((t + 1) / 9 + 1) 24 ≤ 24 := Nat.min_le_right _ _
    have m4 : min ((t + 1) / 4 + 1) 24 ≤ 24 := Nat.min_le_right _ _
    have m5 : min ((t + 1) / 4 + 1) 20 ≤ 20 := Nat.min_le_right _ _
    have sum : ((al5 (t + 1)).map (fun c => c.2.2)).sum ≤ 8230 := by
      simp only [al5, List.map_cons, List.map_nil, List.sum_cons, List.sum_nil]
      omega
    have nr : ∀ sl row base i len, (al5 (t + 1))[i]? = some (sl, 23, len) → len < 2 ^ 31 → NRow K2 (mv z M3 0) S3 (kz K) sl row base 0 := fun sl row base i len hc hl => by
      obtain ⟨w1, w2, w3⟩ := rn i _ hc
      exact ⟨kz K + 1 + i, by rw [vR _ _ (by omega)]; exact w3, w1, Nat.zero_le _, by rw [w2]; exact hl, fun d hd => by omega, fun d hd => by omega, fun d e hd => by omega⟩
    have A13 : mA S3 13 bn = 0 := by rw [s4 13 (by decide), ← hS2]; simp [mA_A, mA_F]
    have A18 : mA S3 18 bn = 0 := by rw [s4 18 (by decide), ← hS2]; simp [mA_A, mA_F]
    have A35 : mA S3 35 bn = 0 := by rw [s4 35 (by decide), ← hS2]; simp [mA_A, mA_F]
    obtain ⟨x9a, x9b, x9c⟩ := rn 9 (9, 23, (t + 1) * 2 + 8) rfl
    dsimp only at x9a x9b x9c
    refine ⟨⟨⟨hb, hbn.symm, hz, Nat.le_refl _, by omega, ⟨KE2, by omega, by omega⟩, ?_⟩, ⟨LYv, ?_, Nat.zero_le _, ?_, ?_, ?_, ?_, ?_⟩, ⟨LYv, hz, v71, k6, ?_, ?_, ?_, ?_, ?_⟩, ⟨List.Pairwise.nil, fun _ => (0, 0, 0), fun _ => 0, fun _ => (0, [], 0), ?_, fun i hi => by omega, rfl, fun m hm => by simp at hm, fun i hi => by omega, fun i hi => by omega, ?_⟩, ?_, ?_, ?_, Or.inl rfl, fun m hm => by simp at hm⟩, ⟨⟨by omega, ?_, v71, k6, by omega, by omega, by omega, ?_, A13, ?_, A18, ?_, A35, ?_, ?_, ?_⟩, ⟨⟨?_, ?_, Nat.zero_le _, ?_⟩, ⟨?_, ?_, Nat.zero_le _, ?_, fun u u' tu tu' _ hu => by omega⟩, fun _ => [], fun u hu => by omega⟩, ⟨hz, k6, ?_⟩, ⟨?_, ?_⟩, fun d hd => by omega, fun d hd => by omega, fun _ => [], fun u hu => by omega⟩, by omega, ?_, by omega, ?_⟩
    · rw [show kz K + 10 = kz K + 1 + 9 from rfl, x9b]; omega
    · unfold TKS TK1
      rw [vI (z + 1) (by omega), vI (z + 3) (by omega), vI (z + 4) (by omega), show cL (mv z M3 0) (z + 5) = cL M2 (z + 5) from m3L _, s4 4 (by decide), s4 5 (by decide), s3, mL2, mA2 4 (by decide) (by decide) (by decide), mA2 5 (by decide) (by decide) (by decide), (o2 (z + 1) (by omega)).1, (o2 (z + 3) (by omega)).1, (o2 (z + 4) (by omega)).1, (o2 (z + 5) (by omega)).2.1]
      exact T0
    · rw [s2, mF2 7 (by decide) (by decide) (by decide) (by decide), q8]; rfl
    · rw [s2, mF2 8 (by decide) (by decide) (by decide) (by decide), q9]
    · unfold mv; rw [cI_w, if_neg (by omega), cI_w, if_pos ⟨rfl, rfl⟩]
    · rw [vI (z + 3) (by omega), ← m3I]; unfold mv; rw [cI_w, if_pos ⟨rfl, rfl⟩]
    · rw [s3, mL2]; exact hk
    · rw [vR _ _ (by omega)]; exact x9c
    · exact x9a
    · rw [show kz K + 10 = kz K + 1 + 9 from rfl, x9b]; omega
    · rw [vI _ (by omega), c13]; rfl
    · exact Nat.zero_le _
    · exact ⟨rfl, fun i hi => by omega, fun i hi => by omega, fun i hi => by omega, fun i hi => by omega, fun i hi => by omega, fun i hi => by omega, fun i hi => by omega⟩
    · exact ⟨0, fun _ => (0, 0, 0, 0), by rw [s2, ← hS2]; rfl, fun k hk => by omega, fun k hk => by omega, fun c hc => by omega⟩
    · intro u v hu hv
      have e0 : mA S3 34 (24 * (24 * bn + u) + v) = 0 := by
        have := s6 (24 * u + v) (by omega)
        rw [show 24 * (24 * bn + u) + v = 576 * bn + (24 * u + v) by omega]
        exact this
      have ec : cI (mv z M3 0) (kz K + 7) u = 0 := by rw [vI _ (by omega)]; exact d6 _ _ (by omega) (by omega)
      rw [e0, ec, b_0]
      exact ⟨⟨fun q => by simp at q, fun q => by rcases q with q | q; exact absurd q (by decide); exact q.elim⟩, Or.inl rfl, fun _ => rfl⟩
    · rw [s2, ← hS2]; rfl
    · rw [s2, ← hS2]; rfl
    · rw [s2]; exact F12
    · rw [vI _ (by omega), c10]; rfl
    · rw [vI _ (by omega), c11]; rfl
    · rw [vI _ (by omega), c12]; rfl
    · exact nr 0 14 _ 0 _ rfl (by omega)
    · exact nr 4 19 _ 4 _ rfl (by omega)
    · exact nr 7 36 _ 7 _ rfl (by omega)
    · rw [vR _ _ (by omega)]; exact (rn 5 _ rfl).2.2
    · exact (rn 5 _ rfl).1
    · rw [show kz K + 6 = kz K + 1 + 5 from rfl, (rn 5 _ rfl).2.1]; exact m4
    · rw [vR _ _ (by omega)]; exact (rn 6 _ rfl).2.2
    · exact (rn 6 _ rfl).1
    · rw [show kz K + 7 = kz K + 1 + 6 from rfl, (rn 6 _ rfl).2.1]; exact m4
    · intro sl kind hm
      rw [vR _ _ (by omega)]
      simp only [List.mem_cons, List.not_mem_nil, or_false, Prod.mk.injEq] at hm
      rcases hm with ⟨rfl, rfl⟩ | ⟨rfl, rfl⟩ | ⟨rfl, rfl⟩ | ⟨rfl, rfl⟩
      · exact ⟨(rn 0 _ rfl).2.2, (rn 0 _ rfl).1, (rn 0 _ rfl).2.1⟩
      · exact ⟨(rn 1 _ rfl).2.2, (rn 1 _ rfl).1, (rn 1 _ rfl).2.1⟩
      · exact ⟨(rn 2 _ rfl).2.2, (rn 2 _ rfl).1, (rn 2 _ rfl).2.1⟩
      · exact ⟨(rn 3 _ rfl).2.2, (rn 3 _ rfl).1, (rn 3 _ rfl).2.1⟩
    · intro sl kind hm
      rw [vR _ _ (by omega)]
      simp only [List.mem_cons, List.not_mem_nil, or_false, Prod.mk.injEq] at hm
      rcases hm with ⟨rfl, rfl⟩ | ⟨rfl, rfl⟩ | ⟨rfl, rfl⟩
      · exact ⟨(rn 4 _ rfl).2.2, (rn 4 _ rfl).1, (rn 4 _ rfl).2.1⟩
      · exact ⟨(rn 5 _ rfl).2.2, (rn 5 _ rfl).1, (rn 5 _ rfl).2.1⟩
      · exact ⟨(rn 6 _ rfl).2.2, (rn 6 _ rfl).1, (rn 6 _ rfl).2.1⟩
    · intro sl kind hm
      rw [vR _ _ (by omega)]
      simp only [List.mem_cons, List.not_mem_nil, or_false, Prod.mk.injEq] at hm
      rcases hm with ⟨rfl, rfl⟩ | ⟨rfl, rfl⟩
      · exact ⟨(rn 7 _ rfl).2.2, (rn 7 _ rfl).1, (rn 7 _ rfl).2.1⟩
      · exact ⟨(rn 8 _ rfl).2.2, (rn 8 _ rfl).1, (rn 8 _ rfl).2.1⟩
    · have : kR S3 bn 0 = 0 := rfl
      omega
    · omega
end START
