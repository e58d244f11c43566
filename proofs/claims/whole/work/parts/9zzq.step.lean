/-! runs: a step -/
section STEPS
variable {z b st nd nu lim nh no h fl t0 c B0 N t : Nat} {clo who : Int32} {U : List Nat} {K : Ka} {M0 M M1 M2 : Cm} {S0 S S1 S2 : Ms} {mk : List Mk} {rc cc : Nat} {g : Nat → Nat × Nat × Nat} {pi : Nat → Nat} {J : Nat → Jt} {cl : Nat → List Nat}
theorem o_1 (X : CDX z b st nd nu K M0 S0 mk rc cc g pi J cl) (hN : 1000000 < N) (m : MBX z b st nd nu lim B0 clo M0 S0 t h fl t0 U who M S) (f : FMp z b rc g pi J h fl t0 c M S) (ht : t < 1000000) (GT : Nat → Int32 → Int32 → Int32 → Int32 → Int32 → Ms → Option (Int32 × Ms)) (ho : (g c).1 = 1) :
    ∃ e S2, fM_work N GT (nI 1) 0 0 who clo (pF S 99 (nI (10000 * b + (c + 1)))) = some (e, S2) ∧ ST1 z b st nd nu lim B0 N K clo M0 S0 rc g pi J t h fl t0 U who c M S e S2 := by
  have hh := m.hh X
  have hn24 : nu ≤ 24 := X.1.2.1
  obtain ⟨-, -, p3, p4, -⟩ := X.pl f.1
  obtain ⟨c1, c2⟩ := p3 (by omega)
  obtain ⟨a1, -, a3, -, -, -, -, a8⟩ := p4
  rw [ho] at a1 a3 a8
  obtain ⟨b1, b2, -⟩ := a3 (by unfold ft; decide)
  rw [if_neg (by decide)] at b2
  have r90 := a8 (by decide)
  obtain ⟨r1, r2, r3, r4, r5, r6⟩ := tk_at X hN m f ht (w := 1) (fo := 0) (s := 0) (by unfold cwd; rw [ho]; rfl) (by decide) (by decide)
  have tw1 : tw (g c) = 1 := by unfold tw; rw [if_neg (by omega)]
  rw [tw1] at c2
  have k35 := r3.k 35 3 0 rfl
  obtain ⟨nh, no, n1, n2, mb⟩ := id r6
  obtain ⟨d, e1, e2, e3, e4, e5⟩ := id mb
  obtain ⟨e11, e12, e13, e14, e15, e16, e17, e18⟩ := e1
  obtain ⟨us, l1, l2, l3, l4, l5, l6⟩ := e2
  obtain ⟨s, s1, s2, s3⟩ := d.2.1
  generalize hMa : wI M (z + 38 + 2 * h) 2 (nI (pi c + 1)) = Ma at *
  generalize hSa : pF S 99 (nI (10000 * b + (c + 1))) = Sa at *
  by_cases q : us < lim ∧ s < 100000
  · obtain ⟨q1, q2⟩ := q
    have v1 : nI (lim - us) - 1 = nI (lim - (us + 1)) := by
      obtain ⟨x, hx⟩ : ∃ x, lim - us = x + 1 := ⟨lim - us - 1, by omega⟩
      rw [hx, nI_p1, show lim - (us + 1) = x by omega]
    have hc : fC_X2_step N K (z + 35) Ma = some (wI (wI (wI Ma (z + 35) 10 (nI (lim - (us + 1)))) (z + 35) 11 (nI (s + 1))) (z + 35) 12 (nI (us + 1))) := by
      unfold fC_X2_step
      rw [gd_k k35, l5, if_neg (show ¬ nI (lim - us) ≤ (0 : Int32) from nI_ge (a := 0) (by omega) (by omega)), s2, if_pos (show nI s < (100000 : Int32) from nI_lt (b := 100000) q2 (by decide)), v1, cI_w, if_neg (by omega), s2, cI_w, if_neg (by omega), cI_w, if_neg (by omega), l6, nI_1, nI_1]
    have hm : fM_work N GT (nI 1) 0 0 who clo Sa = some (0, pF (pF Sa 67 (nI (us + 1))) 65 (nI (s + 1))) := by
      unfold fM_work fM_step bM_work_84
      rw [if_pos (by decide), l3, l4, if_neg (show ¬ nI lim ≤ nI us from nI_ge q1 (by omega)), s3, if_neg (show ¬ nI s = (100000 : Int32) from fun w => by have := (nI_eq (b := 100000) (by omega) (by omega)).mp w; omega), gd_t (show is01 1 = true from rfl), mF_F, if_neg (by decide), s3, bs, nI_1, nI_1]
      rfl
    have d1 := (d.mach (((MCH.rf z Ma Sa).wI (a := z + 35) (k := 10) (v := nI (lim - (us + 1))) (Or.inl ⟨rfl, by decide⟩)).pF (k := 67) (v := nI (us + 1)) (by omega))).stp (s := s) (by omega)
    have d2 := d1.mach ((MCH.rf z _ _).wI (a := z + 35) (k := 12) (v := nI (us + 1)) (Or.inl ⟨rfl, by decide⟩))
    have C : ∀ a, a ≠ z + 35 → cI (wI (wI (wI Ma (z + 35) 10 (nI (lim - (us + 1)))) (z + 35) 11 (nI (s + 1))) (z + 35) 12 (nI (us + 1))) a = cI Ma a := fun a ha => by rw [cI_wI_ne _ _ _ ha, cI_wI_ne _ _ _ ha, cI_wI_ne _ _ _ ha]
    have C35 : ∀ k, k ≠ 10 → k ≠ 11 → k ≠ 12 → cI (wI (wI (wI Ma (z + 35) 10 (nI (lim - (us + 1)))) (z + 35) 11 (nI (s + 1))) (z + 35) 12 (nI (us + 1))) (z + 35) k = cI Ma (z + 35) k := fun k h1 h2 h3 => by rw [cI_w, if_neg (by omega), cI_w, if_neg (by omega), cI_w, if_neg (by omega)]
    have F : ∀ k, k ≠ 67 → k ≠ 65 → mF (pF (pF Sa 67 (nI (us + 1))) 65 (nI (s + 1))) k = mF Sa k := fun k h1 h2 => by rw [mF_F, if_neg h2, mF_F, if_neg h1]
    refine ⟨0, _, hm, Or.inl ⟨rfl, t + 1, _, c + 1, by rw [r1, pf1 k35, hc, bs], ⟨nh, no, by omega, by omega, d2, ⟨e11, e12, ?_, ?_, ?_, ?_, ?_, ?_⟩, ⟨us + 1, by omega, l2, ?_, ?_, ?_, ?_⟩, ⟨e3.1, e3.2.1, e3.2.2.1, fun i hi => ?_⟩, ?_, ?_⟩, fmp_mk c1 ?_ ?_, ?_, ?_, by omega⟩⟩
    · rw [C35 _ (by decide) (by decide) (by decide)]; exact e13
    · rw [C35 _ (by decide) (by decide) (by decide)]; exact e14
    · rw [C35 _ (by decide) (by decide) (by decide)]; exact e15
    · rw [C35 _ (by decide) (by decide) (by decide)]; exact e16
    · rw [C35 _ (by decide) (by decide) (by decide)]; exact e17
    · rw [C35 _ (by decide) (by decide) (by decide)]; exact e18
    · rw [F _ (by decide) (by decide)]; exact l3
    · rw [mF_F, if_neg (by decide), mF_F, if_pos rfl]
    · rw [cI_w, if_neg (by omega), cI_w, if_neg (by omega), cI_w, if_pos ⟨rfl, rfl⟩]
    · rw [cI_w, if_pos ⟨rfl, rfl⟩]
    · rw [C _ (by omega)]; exact e3.2.2.2 i hi
    · unfold MBf at e4 ⊢
      rw [C _ (by omega)]; exact e4
    · unfold MBc at e5 ⊢
      rw [C35 _ (by decide) (by decide) (by decide), F 92 (by decide) (by decide)]; exact e5
    · rw [c2, b2]
      obtain ⟨y1, y2, y3, y4, y5, y6⟩ := r4
      exact ⟨by rw [C _ (by omega)]; exact y1, by rw [F _ (by decide) (by decide)]; exact y2, by rw [C _ (by omega), F _ (by decide) (by decide)]; exact y3, by rw [C _ (by omega)]; exact y4, by rw [F _ (by decide) (by decide)]; exact y5, y6.ag (fun j hj => by rw [C _ (by omega)]) (fun j hj => by rfl)⟩
    · have hj : (J (c + 1)).1 = (J c).1 := by
        have : pp 1 = 0 := rfl
        have : ps 1 = 0 := rfl
        omega
      rw [hj]
      obtain ⟨y1, y2, y3⟩ := r5
      exact ⟨by rw [C35 _ (by decide) (by decide) (by decide)]; exact y1, by rw [F _ (by decide) (by decide)]; exact y2, fun j hj => by rw [C _ (by omega)]; exact y3 j hj⟩
    · exact r2.pr.tr ⟨fun i hi => ⟨C _ (by omega), C _ (by omega)⟩, fun j hj => ⟨by rw [C _ (by omega)], rfl⟩, fun _ _ => rfl, fun _ w => w, fun _ w => w, fun _ _ _ _ => rfl, fun _ _ w => w⟩
    · have h1 : gS nu (pF (pF Sa 67 (nI (us + 1))) 65 (nI (s + 1))) + 182 ≤ gS nu Sa := by
        unfold gS
        have x1 : mF (pF (pF Sa 67 (nI (us + 1))) 65 (nI (s + 1))) 68 = nI lim := by rw [F _ (by decide) (by decide)]; exact l3
        have x2 : mF (pF (pF Sa 67 (nI (us + 1))) 65 (nI (s + 1))) 67 = nI (us + 1) := by rw [mF_F, if_neg (by decide), mF_F, if_pos rfl]
        have x3 : dn (pF (pF Sa 67 (nI (us + 1))) 65 (nI (s + 1))) (fun _ => 1) nu ≤ dn Sa (fun _ => 1) nu := dn_le (S := Sa) (S' := pF (pF Sa 67 (nI (us + 1))) 65 (nI (s + 1))) (fun _ => 1) (fun v hv => hv) nu
        rw [x1, x2, l3, l4, nI_clamp (show lim < 2 ^ 31 by omega), nI_clamp (show us + 1 < 2 ^ 31 by omega), nI_clamp (show us < 2 ^ 31 by omega)]
        omega
      have h2 := r2.gs (nu := nu)
      omega
  · have hm : fM_work N GT (nI 1) 0 0 who clo Sa = some (2, Sa) := by
      unfold fM_work fM_step bM_work_84 bM_step_21
      rw [if_pos (by decide), l3, l4]
      by_cases q1 : us < lim
      · have : s = 100000 := by omega
        rw [if_neg (show ¬ nI lim ≤ nI us from nI_ge q1 (by omega)), s3, this, if_pos (show nI 100000 = (100000 : Int32) from rfl), gd_t (show is01 0 = true from rfl)]
        rfl
      · rw [if_pos (show nI lim ≤ nI us from nI_le (by omega) (by omega)), gd_t (show is01 0 = true from rfl)]
        rfl
    have hL2 : LY z K (wI (wI Ma (z + 35) 14 1) (z + 35) 13 0) := r3
    obtain ⟨N', hN'⟩ : ∃ N', N = N' + 1 := ⟨N - 1, by omega⟩
    have U24 : ∀ u, u ∈ U → u < 24 := fun u hu => by have := (e3.2.2.1 u hu).1; omega
    obtain ⟨Mf, x1, x2, x3, x4, x5, x6, x7⟩ := sf_lp (N := N) (K := K) (h := h) (by omega) e3.1 e3.2.1 U24 N' 0 (wI (wI Ma (z + 35) 14 1) (z + 35) 13 0) hL2 (by omega) (by omega) (by rw [cI_w, if_neg (by omega), cI_w, if_neg (by omega)]; exact e13) (fun k hk => by rw [cI_wI_ne _ _ _ (by omega), cI_wI_ne _ _ _ (by omega)]; exact e3.2.2.2 k hk)
    rw [List.drop_zero] at x2 x3 x4
    have hc16 : bC_X2_step_16 N K (z + 35) Ma = some Mf := by
      unfold bC_X2_step_16
      rw [gd_k k35, gd_t (show is01 1 = true from rfl), gd_t (show is01 0 = true from rfl)]
      have := x1
      rw [← hN'] at this
      exact this
    have hc : fC_X2_step N K (z + 35) Ma = some Mf := by
      unfold fC_X2_step
      rw [gd_k k35, l5, hc16]
      by_cases q1 : us < lim
      · rw [if_neg (show ¬ nI (lim - us) ≤ (0 : Int32) from nI_ge (a := 0) (by omega) (by omega)), s2, if_neg (show ¬ nI s < (100000 : Int32) from fun w => absurd (nI_le (a := 100000) (b := s) (by omega) (by omega)) (Int32.not_le.mpr w))]
      · rw [if_pos (show nI (lim - us) ≤ (0 : Int32) from by rw [show lim - us = 0 by omega]; decide)]
    have x35 : ∀ k, cI Mf (z + 35) k = if k = 13 then 0 else if k = 14 then 1 else cI Ma (z + 35) k := fun k => by
      rw [x5 _ (by omega) (by omega) (by omega), cI_w, cI_w]
      simp
    refine ⟨2, Sa, hm, Or.inr (Or.inr ⟨rfl, Mf, ?_, nh, no, Ma, by omega, by omega, d, ⟨e3.2.1, e3.2.2.1⟩, ⟨fun j => ?_, fun j => ?_, fun j => ?_⟩, ⟨fun a h1 h2 h3 h4 h5 => ?_, ?_, x6, fun a j _ => by rw [x7]; rfl⟩, ⟨?_, ?_, ?_, ?_, ?_⟩, ⟨fun w => (e5.resolve_left (fun v => by rw [v.1] at w; exact absurd w (by decide))).2.2, fun w => (e5.resolve_right (fun v => by rw [v.1] at w; exact absurd w (by decide))).2.2⟩⟩)⟩
    · rw [r1, pf1 k35, hc, bs]
      exact RN_end ⟨r3.1, by rw [x7]; exact hL2.2.1, by rw [x7]; exact hL2.2.2.1, r3.2.2.2⟩ (by omega) (by rw [x35, if_pos rfl])
    · rw [x2, cI_wI_ne _ _ _ (by omega), cI_wI_ne _ _ _ (by omega)]
    · rw [x3, cI_wI_ne _ _ _ (by omega), cI_wI_ne _ _ _ (by omega)]
    · rw [x4, cI_wI_ne _ _ _ (by omega), cI_wI_ne _ _ _ (by omega)]
    · rw [x5 a h1 h2 h3, cI_wI_ne _ _ _ h4, cI_wI_ne _ _ _ h4]
    · rw [x35, if_neg (by decide), if_neg (by decide)]
    · rw [x35, if_pos rfl]
    · rw [x35, if_neg (by decide), if_pos rfl]
    · rw [x35, if_neg (by decide), if_neg (by decide)]; exact e16
    · rw [x35, if_neg (by decide), if_neg (by decide)]; exact e17
    · rw [x35, if_neg (by decide), if_neg (by decide), l6, l4]
end STEPS
