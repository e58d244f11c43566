/-! all that waited is settled by both, or the first wrong one is told by both -/
def VO6 (bn : Nat) (S : Ms) (nd nu : Nat) (x : Nat × Nat × Nat) : Prop := (x.1 = 2 → x.2.1 ≤ 999999999) ∧ (x.1 = 3 → x.2.1 < nu ∧ SLs S bn x.2.1 x.2.2 1) ∧ (x.1 = 4 ∨ x.1 = 5 → x.2.1 < nu ∧ SLs S bn x.2.1 x.2.2 0) ∧ (x.1 = 6 → x.2.1 < nu) ∧ (x.1 = 7 ∨ x.1 = 14 → x.2.1 < nd) ∧ (x.1 = 9 → 1 ≤ x.2.1 ∧ x.2.1 ≤ 9)
/-- the code as it is run -/
def CDF (bn sm nd nu : Nat) (M : Cm) (S : Ms) (mk : List Mk) (rc cc : Nat) : Prop := ∃ g pi J, CG bn (10000 * bn) sm M S g pi rc cc ∧ (∀ i, i < rc → W1 g J rc i ∧ VO6 bn S nd nu (g i) ∧ (g i).1 ≤ 24) ∧ (∀ m, m ∈ mk → m.1 < rc ∧ (m.2.2.1.1 = 99 → MC sm M g pi J rc m)) ∧ (J rc).2.2 = 0 ∧ (rc = 0 ∨ (g (rc - 1)).1 = 0)
def LEf (bn sm nu : Nat) (M : Cm) (S : Ms) : Prop := ∀ u v, u < 24 → v < 24 → (bt (cI M (sm + 7) u) v = true ↔ mA S 34 (24 * (24 * bn + u) + v) = 1) ∧ (mA S 34 (24 * (24 * bn + u) + v) = 0 ∨ mA S 34 (24 * (24 * bn + u) + v) = 1) ∧ (nu ≤ u → mA S 34 (24 * (24 * bn + u) + v) = 0)
/-- what a late instruction and its settled one have in common -/
def rsv (x y : Nat × Nat × Nat) : Prop := x.1 = 25 ∧ (y.1 = 3 ∨ y.1 = 4) ∨ x.1 = 26 ∧ y.1 = 5 ∨ x.1 = 27 ∧ y.1 = 6
theorem rsv_p {x y : Nat × Nat × Nat} (h : rsv x y) : pp y.1 = pp x.1 ∧ ps y.1 = ps x.1 ∧ 3 ≤ y.1 ∧ y.1 ≤ 6 ∧ 25 ≤ x.1 ∧ x.1 ≤ 27 := by
  rcases h with ⟨h1, h2 | h2⟩ | ⟨h1, h2⟩ | ⟨h1, h2⟩
  · rw [h1, h2]; decide
  · rw [h1, h2]; decide
  · rw [h1, h2]; decide
  · rw [h1, h2]; decide
theorem W1.res {g g' : Nat → Nat × Nat × Nat} {J : Nat → Jt} {rc i : Nat} (h : W1 g J rc i) (hi : g' i = g i ∨ rsv (g i) (g' i)) (hb : ∀ b, b < i → g' b = g b ∨ rsv (g b) (g' b)) : W1 g' J rc i := by
  obtain ⟨a1, a2, a3, a4, a5, a6, a7, a8⟩ := h
  have tr : ∀ b, b < i → (g b).1 = 12 ∨ (g b).1 = 30 → (g' b).1 = 12 ∨ (g' b).1 = 30 := fun b hb' hq => by
    rcases hb b hb' with y | y
    · rw [y]; exact hq
    · have := rsv_p y; omega
  rcases hi with y | y
  · unfold W1
    rw [y]
    refine ⟨a1, a2, a3, a4, a5, a6, fun q => ?_, a8⟩
    obtain ⟨b1, b2⟩ := a7 q
    refine ⟨b1, fun o1 o2 b tl w => ?_⟩
    obtain ⟨c1, c2, c3⟩ := b2 o1 o2 b tl w
    exact ⟨c1, tr b c1 c2, c3⟩
  · obtain ⟨p1, p2, p3, p4, p5, p6⟩ := rsv_p y
    unfold W1
    rw [p1, p2]
    have fo : ft (g i).1 := by unfold ft; omega
    obtain ⟨x1, x2, x3⟩ := a3 fo
    rw [if_neg (by omega)] at x2
    refine ⟨a1, fun q => by omega, fun _ => ⟨x1, by rw [if_neg (by omega)]; exact x2, fun _ => x3 (by omega)⟩, fun q1 q2 => by omega, fun q => by omega, fun q => by omega, fun q => ?_, fun q => by omega⟩
    obtain ⟨b1, b2⟩ := a7 (by omega)
    refine ⟨b1, fun o1 o2 b tl w => ?_⟩
    obtain ⟨c1, c2, c3⟩ := b2 (by omega) (by omega) b tl w
    exact ⟨c1, tr b c1 c2, c3⟩
section SETALL
variable {N z b bn sm size t nd nu nm rc cc : Nat} {K0 K : Ka} {M M0 : Cm} {S S0 : Ms} {mk : List Mk}
theorem set_ok (h : TS z b bn sm size t K0 K M S nd nu nm mk rc cc t) (gA : AgA z K0 M0 M) (gO : AgO b S0 S) (hN : 8020 < N) :
    (∃ M' S', bT_X3_make_136 N (z + 7) K M = bT_X3_make_140 N (z + 7) K M' ∧ bM_station_192 N S = bM_station_220 N S' ∧ CF sm M M' ∧ SFr b S S' ∧ CDF bn sm nd nu M' S' mk rc cc ∧ LEf bn sm nu M' S') ∨
    FZ z b K0 M0 S0 (bT_X3_make_136 N (z + 7) K M) (bM_station_192 N S) := by
  obtain ⟨⟨e, p, c, dd, l, h42, h38, hlast⟩, ⟨n, pu, dv, rw, dvd, dmd, und⟩, bud1, bud2, bud3, bud4⟩ := id h
  obtain ⟨n1, n2, n3, n4, n5, n6, n7, n8, n9, n10, n11, n12, n13, n14, n15, n16⟩ := id n
  have hz : z + 174 ≤ sm := by have := e.2.2.1; have := e.2.2.2.1; omega
  have hk0 := e.2.2.2.1
  have b2 : bn < 2 := by omega
  have t4 : t ≤ 4000 := by have := p.2.1.1; have := p.2.1.2.1; omega
  have bd := kR_bud n6 S bn
  have hcc : cc ≤ 2 * t := by omega
  have k7 : kd K (z + 7) = 4 := p.1.k 7 4 0 rfl
  have k1 : kd K (z + 1) = 7 := p.1.k 1 7 0 rfl
  have r70 : cR M (z + 7) 0 = some (z + 1) := p.1.r 7 0 1 (by decide)
  have tok : cI M (z + 1) 6 = nI (t + 1) := p.2.1.2.2.1
  have rr : cR M sm 0 = some (sm + 1) ∧ cR M sm 4 = some (sm + 5) ∧ cR M sm 7 = some (sm + 8) := ⟨(dv.2.2 0 23 (by decide)).1, (rw.1 4 23 (by decide)).1, (rw.2 7 23 (by decide)).1⟩
  obtain ⟨pw, g, pi, J, g1, g2, g3, g4, g5, g6, nl, el, l1, l2, l3, l4⟩ := dd
  have hrc : rc ≤ cc := rc_cc g1
  have srt := LT.srt l3
  have low := LT.low l3 (fun k hk => (l2 k hk).1)
  have up : ∀ k, k < nl → (el k).1 + 1 < t := fun k hk => by have := (l2 k hk).2.1; have := (lend_gt (el k)).1; omega
  have hnl : nl < 2000 := by
    rcases Nat.eq_zero_or_pos nl with q | q
    · omega
    · have := low (nl - 1) (by omega); have := up (nl - 1) (by omega); omega
  -- each of them
  have one : ∀ c, c < rc → lte (g c) → (∃ y u, LOK N z b bn sm nd nu cc K M S (g c) y u) ∨ ∃ kd tk, LBAD N z b bn sm cc K M S (g c) kd tk := fun c' hc' hl => by
    obtain ⟨k, q1, q2⟩ := l4 c' hc' hl.1 hl.2
    obtain ⟨w1, w2, w3⟩ := lte_of (l2 k q1)
    rw [q2] at w3
    have lk := (l2 k q1).2.1
    have v7 := (g6 c' hc').2.2.2.2.2.2 ⟨hl.1, hl.2⟩
    have et : (el k).1 = (g c').2.1 := by rw [w3]
    have eo : (el k).2.2.1 = (g c').1 := by rw [w3]
    have lg := lend_gt (el k)
    have lt2 : (g c').1 ≠ 27 → (g c').2.1 + 2 < t := fun y => by
      have : lend (el k) = (el k).1 + 2 := by unfold lend; rw [eo]; exact if_neg y
      omega
    exact lt_ok (K0 := K0) e.1 e.2.1 n.w pu rr hz hk0 p c h42 (by omega) (o := (g c').1) (tok := (g c').2.1) (i1 := (g c').2.2) hl (by omega) lt2 v7.2.1 v7.2.2.1 v7.2.2.2
  have chY : ∀ c', ∃ q : (Nat × Nat × Nat) × Nat, c' < rc → lte (g c') → (∃ y u, LOK N z b bn sm nd nu cc K M S (g c') y u) → LOK N z b bn sm nd nu cc K M S (g c') q.1 q.2 := fun c' => by
    by_cases y : ∃ y u, LOK N z b bn sm nd nu cc K M S (g c') y u
    · obtain ⟨y', u', q⟩ := y
      exact ⟨(y', u'), fun _ _ _ => q⟩
    · exact ⟨((0, 0, 0), 0), fun _ _ w => absurd w y⟩
  have chK : ∀ c', ∃ q : Nat × Nat, c' < rc → lte (g c') → ¬ (∃ y u, LOK N z b bn sm nd nu cc K M S (g c') y u) → LBAD N z b bn sm cc K M S (g c') q.1 q.2 := fun c' => by
    by_cases y : ∃ kd tk, LBAD N z b bn sm cc K M S (g c') kd tk
    · obtain ⟨y', u', q⟩ := y
      exact ⟨(y', u'), fun _ _ _ => q⟩
    · exact ⟨(0, 0), fun a1 a2 a3 => absurd ((one c' a1 a2).resolve_left a3) y⟩
  obtain ⟨YU, hYU⟩ := Classical.axiomOfChoice chY
  obtain ⟨KT, hKT⟩ := Classical.axiomOfChoice chK
  have hTK : ∀ c', c' < rc → lte (g c') → ¬ (∃ y u, LOK N z b bn sm nd nu cc K M S (g c') y u) → (KT c').2 < t ∧ ∃ k, k < nl ∧ (el k).2.1 = c' ∧ (el k).1 ≤ (KT c').2 ∧ (KT c').2 ≤ lend (el k) := fun c' a1 a2 a3 => by
    obtain ⟨k, q1, q2⟩ := l4 c' a1 a2.1 a2.2
    obtain ⟨w1, w2, w3⟩ := lte_of (l2 k q1)
    rw [q2] at w3
    obtain ⟨b1, b2', b3, -⟩ := hKT c' a1 a2 a3
    have et : (el k).1 = (g c').2.1 := by rw [w3]
    have eo : (el k).2.2.1 = (g c').1 := by rw [w3]
    have ll : lend ((g c').2.1, 0, (g c').1, 0) = lend (el k) := by unfold lend; rw [eo, et]
    have lk := (l2 k q1).2.1
    rw [ll] at b3
    exact ⟨by omega, k, q1, q2, by omega, b3⟩
  -- the class
  have sti0 : STI bn sm rc M S g pi (fun c' => ∃ y u, LOK N z b bn sm nd nu cc K M S (g c') y u) (fun c' => (YU c').1) (fun c' => (YU c').2) KT t 0 M (t + 1) 0 := by
    refine ⟨CF.rf _ _, fun c' a1 a2 _ => ?_, fun c' a1 a2 _ => ?_, fun _ _ => rfl, fun _ u v _ _ => ⟨Or.inl, fun y => y.elim id (fun ⟨c', _, _, y, _⟩ => absurd y (Nat.not_lt_zero _))⟩, Or.inl ⟨rfl, rfl, fun _ _ _ _ => Nat.zero_le _⟩⟩
    · rw [if_neg (Nat.not_lt_zero _), (g1.2.1 c' a1).1]
      exact cw_eq bn S pi (Or.inr (by have := a2.1; omega))
    · rw [(g1.2.1 c' a1).1]
      exact cw_eq bn S pi (Or.inr (by have := a2.1; omega))
  obtain ⟨M', W, D, s1, s2, s3⟩ := st_lp (N := N) (z := z) (b := b) (nd := nd) (nu := nu) g1 k7 c hz (by omega) (by omega) t4 n6 (fun c' a1 a2 a3 => hYU c' a1 a2 a3) (fun c' a1 a2 a3 => hKT c' a1 a2 a3) (fun c' a1 a2 a3 => (hTK c' a1 a2 a3).1) N 0 M (t + 1) 0 (by omega) (by omega) sti0 (by omega)
  have cls0 : fT_X3_settle N (z + 7) K M = bT_X3_settle_102 N (z + 7) (nI W) (nI D) K M' := by
    unfold fT_X3_settle
    rw [gd_k k7, nn_s r70, gd_k k1, tok]
    exact s1
  -- the reference
  have ord : ∀ k, k < nl → ∀ k', k' < nl → (el k).2.1 = (el k').2.1 → k = k' := fun k h1 k' h2 q => by
    obtain ⟨-, -, w3⟩ := lte_of (l2 k h1)
    obtain ⟨-, -, w3'⟩ := lte_of (l2 k' h2)
    have e1 : (el k).1 = (el k').1 := by rw [w3, w3', q]
    rcases Nat.lt_trichotomy k k' with y | y | y
    · have := srt k' h2 k y; have := (lend_gt (el k)).1; omega
    · exact y
    · have := srt k h1 k' y; have := (lend_gt (el k')).1; omega
  have sli0 : SLI b bn nl S el (fun c' => (YU c').1) (fun c' => (YU c').2) 0 S := by
    refine ⟨SFr.rf _ _, fun k' hk' => by rw [if_neg (Nat.not_lt_zero _), if_neg (Nat.not_lt_zero _), if_neg (Nat.not_lt_zero _)]; exact ⟨rfl, rfl, rfl⟩, fun j _ => ⟨rfl, rfl, rfl⟩, fun u v hu hv => ⟨⟨Or.inl, fun y => y.elim id (fun ⟨k', y, _⟩ => absurd y (Nat.not_lt_zero _))⟩, (l u v hu hv).2.1⟩⟩
  have m8 : mF S 8 = 0 := p.2.2.2.2.1
  have ref0 : bM_station_192 N S = lM_station_194 N (bM_station_220 N) N (nI 0) S := rfl
  rcases sl_lp (N := N) (z := z) (b := b) (nd := nd) (nu := nu) (K := K) (OKc := fun c' => ∃ y u, LOK N z b bn sm nd nu cc K M S (g c') y u) (Y := fun c' => (YU c').1) (U := fun c' => (YU c').2) (KT := KT) g1 (by omega) l2 ord hnl l1 m8 b2 n6 (bM_station_220 N) (fun c' a1 a2 a3 => hYU c' a1 a2 a3) (fun c' a1 a2 a3 => hKT c' a1 a2 a3) N 0 S (by omega) (by omega) sli0 (fun k' hk' => absurd hk' (Nat.not_lt_zero _)) with ⟨S', t1, t2, t3⟩ | ⟨k0, S', pl, t1, t2, t3, t4', t5, t6, t7, t8⟩
  · -- all are settled
    left
    have all : ∀ c', c' < rc → lte (g c') → ∃ y u, LOK N z b bn sm nd nu cc K M S (g c') y u := fun c' a1 a2 => by
      obtain ⟨k, q1, q2⟩ := l4 c' a1 a2.1 a2.2
      have := t3 k q1
      rw [q2] at this
      exact this
    obtain ⟨f3, f4, f5, f6, f7, f8⟩ := s2
    obtain ⟨sf, sr, so, sl⟩ := t2
    have D0 : D = 0 := by
      rcases f8 with ⟨d1, -⟩ | ⟨c0, d1, d2, d3, -⟩
      · exact d1
      · exact absurd (all c0 d1 d2) d3
    have cls1 : bT_X3_make_136 N (z + 7) K M = bT_X3_make_140 N (z + 7) K M' := by
      unfold bT_X3_make_136
      rw [gd_k k7, cls0, D0]
      unfold bT_X3_settle_102 bT_X3_settle_116
      rw [if_pos (show nI 0 ≤ 0 by decide), tb_l]
    refine ⟨M', S', cls1, by rw [ref0]; exact t1, f3, sf, ⟨fun c' => @ite _ (lte (g c')) (Classical.propDecidable _) (YU c').1 (g c'), pi, J, ?_⟩, fun u v hu hv => ?_⟩
    · have yes : ∀ c', lte (g c') → @ite _ (lte (g c')) (Classical.propDecidable _) (YU c').1 (g c') = (YU c').1 := fun c' y => if_pos y
      have no : ∀ c', ¬ lte (g c') → @ite _ (lte (g c')) (Classical.propDecidable _) (YU c').1 (g c') = g c' := fun c' y => if_neg y
      generalize hg' : (fun c' => @ite _ (lte (g c')) (Classical.propDecidable _) (YU c').1 (g c')) = g' at *
      have yes' : ∀ c', lte (g c') → g' c' = (YU c').1 := fun c' y => by rw [← hg']; exact yes c' y
      have no' : ∀ c', ¬ lte (g c') → g' c' = g c' := fun c' y => by rw [← hg']; exact no c' y
      have ok : ∀ c', c' < rc → lte (g c') → LOK N z b bn sm nd nu cc K M S (g c') (YU c').1 (YU c').2 := fun c' a1 a2 => hYU c' a1 a2 (all c' a1 a2)
      have rs : ∀ c', c' < rc → g' c' = g c' ∨ rsv (g c') (g' c') := fun c' a1 => by
        by_cases y : lte (g c')
        · rw [yes' c' y]; exact Or.inr (ok c' a1 y).2.2.1
        · exact Or.inl (no' c' y)
      have o28 : mA S' 28 = mA S 28 := sf.2.1 28 (by decide) (by decide) (by decide)
      have o29 : mA S' 29 = mA S 29 := sf.2.1 29 (by decide) (by decide) (by decide)
      have twe : ∀ c', c' < rc → tw (g' c') = tw (g c') := fun c' a1 => by
        rcases rs c' a1 with y | y
        · rw [y]
        · have := rsv_p y
          unfold tw
          rw [if_neg (by omega), if_neg (by omega)]
      have far : ∀ c' q, c' < rc → lte (g c') → pi c' ≠ q → True := fun _ _ _ _ _ => trivial
      have keep : ∀ j, (∀ c', c' < rc → lte (g c') → j ≠ pi c') → cL M' (sm + 10) j = cL M (sm + 10) j := f6
      refine ⟨⟨g1.1, fun i hi => ?_, fun i hi => by rw [twe i hi]; exact g1.2.2.1 i hi, fun i hi h0 => ?_, fun i hi h0 => ?_, fun i hi h0 => ?_, fun i hi h0 h1 => ?_, fun i hi => ?_⟩, fun i hi => ⟨(g2 i hi).res (rs i hi) (fun b' hb' => rs b' (by omega)), ?_, ?_⟩, fun m hm => ⟨(hlast.2 m hm).1, fun h99 => ?_⟩, by rw [g3], ?_⟩
      · obtain ⟨w1, w2, w3, w4⟩ := g1.2.1 i hi
        by_cases y : lte (g i)
        · obtain ⟨k, q1, q2⟩ := l4 i hi y.1 y.2
          have ro := sr k q1
          rw [q2, if_pos q1, if_pos q1, if_pos q1] at ro
          have oy := ok i hi y
          have rp := rsv_p (show rsv (g i) (YU i).1 from oy.2.2.1)
          have lt := g1.mono rc (Nat.le_refl _) i hi
          have tp := (tw_pos (g i)).1
          rw [g1.1] at lt
          rw [yes' i y, f4 i hi y (all i hi y), if_pos (by omega), cwd_ag (S' := S') (S := S) (pi := pi) (pi' := pi) o28 o29 (fun _ _ => rfl), cw_eq bn S pi (Or.inl (by omega))]
          exact ⟨rfl, ro.1, ro.2.1, ro.2.2⟩
        · rw [no' i y, keep (pi i) (fun c' a1 a2 a3 => by
            have ec := g1.inj hi a1 a3
            rw [ec] at y
            exact y a2), cwd_ag (S' := S') (S := S) (pi := pi) (pi' := pi) o28 o29 (fun _ _ => rfl)]
          have o := so (10000 * bn + i) (fun k' hk' q => by
            obtain ⟨w1', w2', w3'⟩ := lte_of (l2 k' hk')
            have : i = (el k').2.1 := by omega
            rw [← this] at w1'
            exact y w1')
          rw [o.1, o.2.1, o.2.2]
          exact ⟨w1, w2, w3, w4⟩
      · rw [twe i hi]
        refine g1.2.2.2.1 i hi (fun q => ?_)
        rcases rs i hi with y | y
        · rw [y] at h0; exact h0 q
        · have := rsv_p y; omega
      · have y : g' i = g i := (rs i hi).elim id (fun y => by have := rsv_p y; omega)
        rw [y] at h0 ⊢
        have t2' : tw (g i) = 2 := by unfold tw; rw [if_pos (Or.inl h0)]
        rw [keep (pi i + 1) (fun c' a1 a2 a3 => by
          rcases Nat.lt_trichotomy c' i with q | q | q
          · have := g1.mono i (by omega) c' q; have := (tw_pos (g c')).1; omega
          · subst q; have := a2.2; omega
          · have := g1.mono c' (by omega) i q; omega)]
        exact g1.2.2.2.2.1 i hi h0
      · have y : g' i = g i := (rs i hi).elim id (fun y => by have := rsv_p y; omega)
        rw [y] at h0
        have t2' : tw (g i) = 2 := by unfold tw; rw [if_pos (Or.inr h0)]
        rw [keep (pi i + 1) (fun c' a1 a2 a3 => by
          rcases Nat.lt_trichotomy c' i with q | q | q
          · have := g1.mono i (by omega) c' q; have := (tw_pos (g c')).1; omega
          · subst q; have := a2.2; omega
          · have := g1.mono c' (by omega) i q; omega)]
        exact g1.2.2.2.2.2.1 i hi h0
      · have y : g' i = g i := (rs i hi).elim id (fun y => by have := rsv_p y; omega)
        rw [y] at h0 h1 ⊢
        exact g1.2.2.2.2.2.2.1 i hi h0 h1
      · rcases g1.2.2.2.2.2.2.2 i hi with y | y
        · exact Or.inl y
        · by_cases q : ∃ c', c' < rc ∧ i = pi c'
          · exact Or.inl q
          · exact Or.inr (by rw [keep i (fun c' a1 _ a3 => q ⟨c', a1, a3⟩)]; exact y)
      · have vo : ∀ x, VO bn S nd nu x → VO6 bn S' nd nu x := fun x hx => by
          obtain ⟨v1, v2, v3, v4, v5, v6, -⟩ := hx
          unfold VO6 SLs at *
          rw [sf.2.1 25 (by decide) (by decide) (by decide), sf.2.1 27 (by decide) (by decide) (by decide)]
          exact ⟨v1, v2, v3, v4, v5, v6⟩
        by_cases y : lte (g i)
        · rw [yes' i y]; exact vo _ (ok i hi y).2.1
        · rw [no' i y]; exact vo _ (g6 i hi)
      · by_cases y : lte (g i)
        · have := rsv_p (show rsv (g i) (YU i).1 from (ok i hi y).2.2.1)
          rw [yes' i y]; omega
        · rw [no' i y]
          by_cases q : 28 ≤ (g i).1
          · obtain ⟨m, m1, m2, m3⟩ := g5 i hi q
            have m4 := ((g4 m m1).1 m3).2.1
            rw [m2] at m4
            have m5 := (hlast.2 m m1).2
            rw [← m4] at m5 m3
            omega
          · unfold lte at y; omega
      · obtain ⟨q1, q2, q3⟩ := g4 m hm
        obtain ⟨s1', s2', s3', s4', s5', s6', s7'⟩ := q3 h99
        have ml := (hlast.2 m hm).1
        have kp : ∀ j, j < m.2.1 → (∀ k, k < m.1 → pi k + tw (g k) ≤ j) → cL M' (sm + 10) j = cL M (sm + 10) j := fun j hj hlo => keep j (fun c' a1 a2 a3 => by
          by_cases y : c' < m.1
          · have := hlo c' y; have := (tw_pos (g c')).1; omega
          · by_cases y2 : c' = m.1
            · rw [y2, q2] at a3; omega
            · have := g1.mono c' (by omega) m.1 (by omega); omega)
        refine ⟨fun q => absurd h99 q, q2, fun _ => ⟨s1', s2', s3', s4', fun k hk => by rw [twe k (by omega)]; exact s5' k hk, fun k hk => ?_, fun h1' => ?_⟩⟩
        · rw [kp _ (by omega) (fun k' hk' => by have := s5' k' hk'; omega)]; exact s6' k hk
        · rw [kp _ (by omega) (fun k' hk' => by have := s5' k' hk'; omega)]; exact s7' h1'
      · rcases hlast.1 with q | q
        · exact Or.inl q
        · right
          have e : g (rc - 1) = (0, 0, 0) := ((g4 _ q).1 (show (0 : Nat) ≠ 99 by decide)).2.1
          rw [no' _ (by rw [e]; unfold lte; omega), e]
    · obtain ⟨le1, le2, le3⟩ := l u v hu hv
      obtain ⟨sl1, sl2⟩ := sl u v hu hv
      have third : nu ≤ u → mA S' 34 (24 * (24 * bn + u) + v) = 0 := fun hnu' => by
        rcases sl2 with y | y
        · exact y
        · rcases sl1.mp y with q | ⟨k, q1, q2, q3⟩
          · rw [le3 hnu'] at q; exact absurd q (by decide)
          · obtain ⟨w1, w2, w3⟩ := lte_of (l2 k q1)
            have v7 := (g6 _ w2).2.2.2.2.2.2 ⟨w1.1, w1.2⟩
            have e4 : (g (el k).2.1).2.2 = (el k).2.2.2 := by
              have := congrArg (fun q => q.2.2.2) w3
              exact this.symm
            have := v7.2.1
            omega
      refine ⟨?_, sl2, third⟩
      rw [f7 all u v hu hv, sl1, le1]
      constructor
      · rintro ((y | y) | ⟨c', y1, y2, y3, y4, y5⟩)
        · exact Or.inl y
        · exact y.elim
        · obtain ⟨k, q1, q2⟩ := l4 c' y1 y2.1 y2.2
          obtain ⟨w1, w2, w3⟩ := lte_of (l2 k q1)
          exact Or.inr ⟨k, q1, by rw [w3, q2]; exact y4, by rw [q2]; exact y5⟩
      · rintro (y | ⟨k, q1, q2, q3⟩)
        · exact Or.inl (Or.inl y)
        · obtain ⟨w1, w2, w3⟩ := lte_of (l2 k q1)
          have lt := g1.mono rc (Nat.le_refl _) _ w2
          have tp := (tw_pos (g (el k).2.1)).1
          rw [g1.1] at lt
          have e4 : (g (el k).2.1).2.2 = (el k).2.2.2 := by
            have := congrArg (fun q => q.2.2.2) w3
            exact this.symm
          exact Or.inr ⟨(el k).2.1, w2, w1, by omega, e4.trans q2, q3⟩
  · -- the first wrong one
    right
    obtain ⟨w1, w2, w3⟩ := lte_of (l2 k0 t1)
    obtain ⟨tk1, k', x1, x2, x3, x4⟩ := hTK _ w2 w1 t2
    have ek : k' = k0 := ord k' x1 k0 t1 x2
    subst ek
    obtain ⟨f3, f4, f5, f6, f7, f8⟩ := s2
    have lt0 := g1.mono rc (Nat.le_refl _) _ w2
    have tp0 := (tw_pos (g (el k').2.1)).1
    rw [g1.1] at lt0
    have WD : W = (KT (el k').2.1).2 ∧ D = (KT (el k').2.1).1 := by
      rcases f8 with ⟨d1, d2, d3⟩ | ⟨c0, d1, d2, d3, d4, d5, d6⟩
      · have := d3 _ w2 w1 t2; omega
      · have mn := d6 _ w2 w1 t2 (by omega)
        obtain ⟨tk2, k2, z1, z2, z3, z4⟩ := hTK c0 d1 d2 d3
        rcases Nat.lt_trichotomy k2 k' with y | y | y
        · have := t3 k2 y
          rw [z2] at this
          exact absurd this d3
        · subst y
          rw [z2] at *
          exact ⟨d4, d5⟩
        · have := srt k2 z1 k' y
          omega
    have kb := (hKT _ w2 w1 t2).1
    have pM : PT z K M' S size t t := p.cst (fun q hq => f3.1 q (by omega)) (fun s _ => by rw [f3.1 (z + 7) (by omega)]) (f3.2.1 _ (by omega)) f3.2.2
    have pW := pM.mv (j := W) (by omega)
    have wr := wr_ok (N := N) (S := pF S 7 (nI W)) (w := D) (j := W) (p := pl) m8 rfl (by omega) (by show mA S 5 W = _; rw [WD.1]; exact t6)
    obtain ⟨f, r1, r2, r3⟩ := rf_nI pW N (w := D) (by omega) (by omega)
    rw [wr] at r3
    have ef : nI (D + 16 * pl) = nI f := congrArg (fun S => mF S 8) (Option.some.inj r3)
    have d8 : mF S' 8 = nI f := by rw [t7, ← WD.2]; exact ef
    refine ⟨f, K, _, S', r1, ?_, e.2.2.2.2.2.1, (gA.tr (CF.fr (K0 := K0) (z := z) (b := b) f3 (SFr.rf b S) hz hk0).2.2.2.2.2.2.2.2.1).tr ((mv_A W).tr ⟨fun q _ hq => ⟨cI_wI_ne _ _ _ hq, rfl⟩, fun _ _ _ _ => rfl⟩), by rw [cI_w, if_pos ⟨rfl, rfl⟩], ?_, ⟨r1, d8⟩, gO.tr t8⟩
    · unfold bT_X3_make_136
      rw [gd_k k7, cls0]
      unfold bT_X3_settle_102
      rw [if_neg (show ¬ nI D ≤ 0 from nI_ge (a := 0) (by omega) (by omega)), gd_k k7, mv_ok pM.1 pM.2.1 N (by omega), bs, r2, tb_r, tb_r]
    · rw [ref0, t4']
      have d : DS S' f := ⟨r1, d8⟩
      unfold bM_station_220 bM_station_243
      rw [if_neg d.n0, d8]
end SETALL
