/-! runs: all instructions; a frame done to its end -/
def WKO (z b st nd nu lim B0 N : Nat) (K : Ka) (clo : Int32) (M0 : Cm) (S0 : Ms) (rc : Nat) (g : Nat → Nat × Nat × Nat) (pi : Nat → Nat) (J : Nat → Jt) (t h fl t0 : Nat) (U : List Nat) (who : Int32) (P : Nat) (M : Cm) (S : Ms) (e : Int32) (S' : Ms) : Prop :=
  (e = 0 ∧ ∃ t' M' c', RN N K z st t M = RN N K z st t' M' ∧ MBX z b st nd nu lim B0 clo M0 S0 t' h fl t0 U who M' S' ∧ FMp z b rc g pi J h fl t0 c' M' S' ∧ (g c').1 = 0 ∧ PR z h fl t0 M M' S S' ∧ t' + gS nu S' + 2 ≤ P ∧ t ≤ t') ∨
  (e = 1 ∧ ∃ t' j M', RN N K z st t M = (RSE N K z j (mF S' 90) (mF S' 91) M').bind (RN N K z st t') ∧ MBX z b st nd nu lim B0 clo M0 S0 t' h fl t0 U who M' S' ∧ FMc z b h fl t0 g pi [] M' S' ∧ j + h ≤ 24 ∧ PR z h fl t0 M M' S S' ∧ t' + gS nu S' ≤ P ∧ t ≤ t') ∨
  (e = 2 ∧ ∃ Mf, RN N K z st t M = some Mf ∧ STP z b nd nu B0 clo M0 S0 U Mf S')
section LOOP
variable {z b st nd nu lim nh no h fl t0 c B0 N t sz ts dm : Nat} {clo who : Int32} {U : List Nat} {K : Ka} {M0 M M1 M2 : Cm} {S0 S S1 S2 : Ms} {mk : List Mk} {rc cc : Nat} {g : Nat → Nat × Nat × Nat} {pi : Nat → Nat} {J : Nat → Jt} {cl : Nat → List Nat}
theorem o_all (X : CDX z b st nd nu K M0 S0 mk rc cc g pi J cl) (hP : RPB z nu M0 S0) (hB : B0 + 1000000 ≤ 1000000000) (hN : 1000000 < N) (hC : clo = 0 → CUs z b st nd nu lim B0 N K M0 S0 dm) (m : MBX z b st nd nu lim B0 clo M0 S0 t h fl t0 U who M S) (f : FMp z b rc g pi J h fl t0 c M S) {k : Nat} (hd : clo = 0 → dn S (fun _ => 1) nu ≤ dm) (hk : clo = 0 → dn S (wt b nu S0) nu ≤ k) (hT : t + gS nu S + 2 ≤ 1000000) (h0 : (g c).1 ≠ 0) :
    ∃ e S2, fM_work N (gT N (k + 2)) (rfd (10000 * b) (g c)).1 (rfd (10000 * b) (g c)).2.1 (rfd (10000 * b) (g c)).2.2 who clo (pF S 99 (nI (10000 * b + (c + 1)))) = some (e, S2) ∧ ST1 z b st nd nu lim B0 N K clo M0 S0 rc g pi J t h fl t0 U who c M S e S2 := by
  have h24 := (X.pl f.1).2.2.2.2.2
  have ht : t < 1000000 := by omega
  by_cases c1 : (g c).1 = 1
  · rw [rf0 (by omega)]; dsimp only; rw [c1]; exact o_1 X hN m f ht _ c1
  by_cases c2 : (g c).1 = 2
  · rw [rf2 (by omega)]; dsimp only; rw [c2]; exact o_2 X hN m f ht _ c2
  by_cases c3 : (g c).1 = 3
  · rw [rf3 (by omega)]; dsimp only; rw [c3]; exact o_3 X hN m f ht _ c3
  by_cases c4 : (g c).1 = 4
  · rw [rf3 (by omega)]; dsimp only; rw [c4]; exact o_4 X hB hN hC m f hd hk hT c4
  by_cases c5 : (g c).1 = 5
  · rw [rf3 (by omega)]; dsimp only; rw [c5]; exact o_5 X hN hC m f hd hk hT c5
  by_cases c6 : (g c).1 = 6
  · rw [rf2 (by omega)]; dsimp only; rw [c6]; exact o_6 X hN hC m f hd hk hT c6
  by_cases c7 : (g c).1 = 7
  · rw [rf2 (by omega)]; dsimp only; rw [c7]; exact o_7 X hB hN m f ht _ c7
  by_cases c8 : (g c).1 = 8
  · rw [rf0 (by omega)]; dsimp only; rw [c8]; exact o_8 X hN m f ht _ c8
  by_cases c9 : (g c).1 = 9
  · rw [rf2 (by omega)]; dsimp only; rw [c9]; exact o_9 X hN m f ht _ c9
  by_cases c10 : (g c).1 = 10
  · rw [rf10 (by omega)]; dsimp only; rw [c10]; exact o_10 X hN m f ht _ c10
  by_cases c11 : (g c).1 = 11
  · rw [rf10 (by omega)]; dsimp only; rw [c11]; exact o_11 X hN m f ht _ c11
  by_cases c12 : (g c).1 = 12
  · rw [rf10 (by omega)]; dsimp only; rw [c12]; exact o_12 X hN m f ht _ c12
  by_cases c13 : (g c).1 = 13
  · rw [rf10 (by omega)]; dsimp only; rw [c13]; exact o_13 X hN m f (by omega) _ c13
  by_cases c14 : (g c).1 = 14
  · rw [rf2 (by omega)]; dsimp only; rw [c14]; exact o_14 X hN m f ht _ c14
  by_cases c15 : (g c).1 = 15
  · rw [rf0 (by omega)]; dsimp only; rw [c15]; exact o_15 X hN m f ht _ c15
  by_cases c16 : (g c).1 = 16
  · rw [rf0 (by omega)]; dsimp only; rw [c16]; exact o_16 X hP hN m f ht _ c16
  by_cases c17 : (g c).1 = 17
  · rw [rf0 (by omega)]; dsimp only; rw [c17]; exact o_17 X hN m f ht _ c17
  rw [rf0 (by omega)]
  dsimp only
  rcases (show (g c).1 = 18 ∨ (g c).1 = 19 ∨ (g c).1 = 20 ∨ (g c).1 = 21 ∨ (g c).1 = 22 ∨ (g c).1 = 23 ∨ (g c).1 = 24 by omega) with q | q | q | q | q | q | q <;> rw [q]
  · exact o_bin X hN m f ht _ q (w := 42) (by decide)
  · exact o_bin X hN m f ht _ q (w := 47) (by decide)
  · exact o_bin X hN m f ht _ q (w := 37) (by decide)
  · exact o_bin X hN m f ht _ q (w := 43) (by decide)
  · exact o_bin X hN m f ht _ q (w := 45) (by decide)
  · exact o_bin X hN m f ht _ q (w := 60) (by decide)
  · exact o_bin X hN m f ht _ q (w := 61) (by decide)
theorem rk_le (X : CDX z b st nd nu K M0 S0 mk rc cc g pi J cl) (hc : c < rc) : (J c).2.2 ≤ 90 := by
  obtain ⟨-, -, -, -, -, -, a7, a8⟩ := (X.pl hc).2.2.2.1
  by_cases q : (g c).1 ≤ 1
  · rw [a8 q]; exact Nat.le_refl _
  · have := (a7 (by omega)).1; omega
theorem WKO.pre {P P' t1 : Nat} {e : Int32} {S' : Ms} (hr : RN N K z st t M = RN N K z st t1 M1) (ht : t ≤ t1) (pr : PR z h fl t0 M M1 S S1) (hP : P ≤ P') (h1 : WKO z b st nd nu lim B0 N K clo M0 S0 rc g pi J t1 h fl t0 U who P M1 S1 e S') : WKO z b st nd nu lim B0 N K clo M0 S0 rc g pi J t h fl t0 U who P' M S e S' := by
  rcases h1 with ⟨rfl, t', M', c', a1, a2, a3, a4, a5, a6, a7⟩ | ⟨rfl, t', j, M', a1, a2, a3, a4, a5, a6, a7⟩ | ⟨rfl, Mf, a1, a2⟩
  · exact Or.inl ⟨rfl, t', M', c', hr.trans a1, a2, a3, a4, pr.tr a5, by omega, by omega⟩
  · exact Or.inr (Or.inl ⟨rfl, t', j, M', hr.trans a1, a2, a3, a4, pr.tr a5, by omega, by omega⟩)
  · exact Or.inr (Or.inr ⟨rfl, Mf, hr.trans a1, a2⟩)
theorem wk_lp (X : CDX z b st nd nu K M0 S0 mk rc cc g pi J cl) (hP : RPB z nu M0 S0) (hB : B0 + 1000000 ≤ 1000000000) (hN : 1000000 < N) (hC : clo = 0 → CUs z b st nd nu lim B0 N K M0 S0 dm) (k : Nat) (x4 x5 : Int32) : ∀ (n t c : Nat) (M : Cm) (S : Ms), gS nu S + 2 * (91 - (J c).2.2) < n → MBX z b st nd nu lim B0 clo M0 S0 t h fl t0 U who M S → FMp z b rc g pi J h fl t0 c M S → (clo = 0 → dn S (fun _ => 1) nu ≤ dm) → (clo = 0 → dn S (wt b nu S0) nu ≤ k) → t + gS nu S + 2 * (91 - (J c).2.2) ≤ 1000000 →
    ∃ e S', lM_works_37 N (gT N (k + 3)) (bM_works_157 N (gT N (k + 3))) n who clo x4 x5 (nI fl) (nI t0) 0 S = bM_works_157 N (gT N (k + 3)) x4 x5 (nI fl) (nI t0) e S' ∧ WKO z b st nd nu lim B0 N K clo M0 S0 rc g pi J t h fl t0 U who (t + gS nu S + 2 * (91 - (J c).2.2)) M S e S' := by
  intro n
  induction n with
  | zero => intro t c M S h1; omega
  | succ n ih =>
    intro t c M S h1 m f hd hk hT
    have hh := m.hh X
    obtain ⟨b2, r8⟩ := X.b2
    have hc := f.1
    have rk := rk_le X hc
    obtain ⟨q39, q40, q41⟩ := X.rw hc m
    have e99 := f.ctl.2.1
    have ci : (nI (10000 * b + c)).toNatClampNeg = 10000 * b + c := nI_clamp (by omega)
    have h24 := (X.pl hc).2.2.2.2.2
    obtain ⟨n', hn'⟩ : ∃ n', n = n' + 1 := ⟨n - 1, by omega⟩
    have ex : ∀ (e : Int32) (S' : Ms), e ≠ 0 → lM_works_37 N (gT N (k + 3)) (bM_works_157 N (gT N (k + 3))) n who clo x4 x5 (nI fl) (nI t0) e S' = bM_works_157 N (gT N (k + 3)) x4 x5 (nI fl) (nI t0) e S' := fun e S' he => by
      rw [hn', lM_works_37, if_neg he]
    rw [lM_works_37, if_pos rfl, e99, ck_n (show 10000 * b + c < 20000 by omega) (by decide), ci, q39]
    by_cases h0 : (g c).1 = 0
    · rw [rf0 (by omega)]
      dsimp only
      rw [h0, if_pos (show nI 0 = (0 : Int32) from rfl)]
      exact ⟨0, S, rfl, Or.inl ⟨rfl, t, M, c, rfl, m, f, h0, PR.rf _ _ _ _ _ _, by omega, Nat.le_refl _⟩⟩
    · have hz : ¬ (rfd (10000 * b) (g c)).1 = 0 := by
        have : (rfd (10000 * b) (g c)).1 = nI (g c).1 := by
          by_cases a : (g c).1 = 3 ∨ (g c).1 = 4 ∨ (g c).1 = 5
          · rw [rf3 a]
          · by_cases a2 : (g c).1 = 2 ∨ (g c).1 = 6 ∨ (g c).1 = 7 ∨ (g c).1 = 9 ∨ (g c).1 = 14
            · rw [rf2 a2]
            · by_cases a3 : 10 ≤ (g c).1 ∧ (g c).1 ≤ 13
              · rw [rf10 a3]
              · rw [rf0 (by omega)]
        rw [this]
        exact fun w => h0 ((nI_eq (b := 0) (by omega) (by decide)).mp w)
      rw [if_neg hz, ck_n (show 10000 * b + c < 20000 by omega) (by decide), ck_n (show 10000 * b + c < 20000 by omega) (by decide), ck_n (show 10000 * b + c < 20000 by omega) (by decide), nI_1, mA_F, q39, q40, q41, gT_4]
      obtain ⟨e, S', a1, a2⟩ := o_all X hP hB hN hC m f hd hk (by omega) h0
      rw [show nI (10000 * b + c + 1) = nI (10000 * b + (c + 1)) from rfl, a1, bs]
      dsimp only
      unfold bM_works_154
      have dd : ∀ S1 : Ms, (∀ v, mA S1 54 v = 0 → mA S 54 v = 0) → (clo = 0 → dn S1 (fun _ => 1) nu ≤ dm) ∧ (clo = 0 → dn S1 (wt b nu S0) nu ≤ k) := fun S1 q => ⟨fun w => Nat.le_trans (dn_le _ q nu) (hd w), fun w => Nat.le_trans (dn_le _ q nu) (hk w)⟩
      rcases a2 with ⟨rfl, t', M', c', y1, y2, y3, y4, y5, y6⟩ | ⟨rfl, t', j, M', y1, y2, y3, y4, y5, y6, y7, y8, y9⟩ | ⟨rfl, Mf, y1, y2⟩
      · rw [if_neg (by decide)]
        obtain ⟨d1, d2⟩ := dd S' y4.2.2.2.2.1
        obtain ⟨e, S'', z1, z2⟩ := ih t' c' M' S' (by omega) y2 y3 d1 d2 (by omega)
        exact ⟨e, S'', z1, z2.pre y1 (by omega) y4 (by omega)⟩
      · rw [if_pos rfl]
        obtain ⟨z1, z2, z3, z4, z5⟩ := y3
        rcases hL : (J c).2.1 with _ | ⟨x, tl⟩
        · rw [hL] at z1 z2 z3
          rw [z2, List.length_nil, Nat.add_zero, if_pos (Int32.le_refl _), ex 1 S' (by decide)]
          exact ⟨1, S', rfl, Or.inr (Or.inl ⟨rfl, t', j, M', y1, y2, ⟨z1, by rw [List.length_nil, Nat.add_zero]; exact z2, trivial, z4, z5⟩, y4, y5, by omega, by omega⟩)⟩
        · rw [hL] at z1 z2 z3
          obtain ⟨z31, z32, z33⟩ := z3
          rw [List.length_cons] at z1 z2
          have tb := fl_34 m
          obtain ⟨-, -, -, -, -, -, w7, -⟩ := (X.pl hc).2.2.2.1
          obtain ⟨w70, w71⟩ := w7 y8
          obtain ⟨v1, v2, v3, v4, v5⟩ := w71 y9 (by omega) x tl hL
          have xr : x < rc := by omega
          have x24 := (X.pl xr).2.2.2.2.2
          have x12 : (g x).1 = 12 := by omega
          obtain ⟨j1, j2, j3, j4, j5, j6⟩ := w1_to X xr (by omega) (by omega)
          rw [x12] at j3 j4
          rw [if_neg (by decide), v4] at j4
          have j0 : (J (g x).2.1).1 = 0 := by
            have : pp 12 = 0 := rfl
            omega
          have l10 : tl.length < 10 := by
            have := (X.pl hc).2.2.2.1.1.2.1
            rw [hL, List.length_cons] at this
            omega
          have rk2 := rk_le X j1
          have h5 : cR M' (z + 35) 5 = some (z + 38 + 2 * h) := by obtain ⟨nh', no', -, -, -, w, -⟩ := y2; exact w.2.1
          have h4 : cI M' (z + 38 + 2 * h) 4 = nI fl := by obtain ⟨nh', no', -, -, -, -, -, -, w, -⟩ := y2; exact w.2.2.1
          have rc1 := RSE_catch (N := N) (a := mF S' 90) (c := mF S' 91) (y2.ly X) (show j < 25 by omega) (by omega) (show h < 25 by omega) h5 z1 l10
          rw [z31, h4] at rc1
          have pl : PLN z h fl t0 M' (wI (wI (wI (wI M' (z + 38 + 2 * h) 5 (nI tl.length)) (z + 38 + 2 * h) 3 (mF S' 90)) (z + 38 + 2 * h) 2 (nI (pi (g x).2.1))) (z + 35) 7 (nI fl)) S' (pF (pF (pF (pF S' 97 (nI (t0 + tl.length))) 99 (nI (10000 * b + (g x).2.1))) 95 (nI fl)) 98 (mF S' 90)) :=
            (((((((((PLN.rf z h fl t0 M' S').wf (by decide) (by omega)).wf (by decide) (by omega)).wf (by decide) (by omega)).w7 (by omega)).pF (by omega)).pF (by omega)).pF (by omega)).pF (by omega))
          have m2 := y2.pln pl
          have f2 : FMp z b rc g pi J h fl t0 (g x).2.1 (wI (wI (wI (wI M' (z + 38 + 2 * h) 5 (nI tl.length)) (z + 38 + 2 * h) 3 (mF S' 90)) (z + 38 + 2 * h) 2 (nI (pi (g x).2.1))) (z + 35) 7 (nI fl)) (pF (pF (pF (pF S' 97 (nI (t0 + tl.length))) 99 (nI (10000 * b + (g x).2.1))) 95 (nI fl)) 98 (mF S' 90)) := by
            refine fmp_mk j1 ⟨?_, ?_, ?_, ?_, ?_, ?_⟩ ⟨?_, ?_, fun i hi => ?_⟩
            · rw [cI_wI_ne _ _ _ (by omega), cI_w, if_pos ⟨rfl, rfl⟩]
            · rw [mF_F, if_neg (by decide), mF_F, if_neg (by decide), mF_F, if_pos rfl]
            · rw [cI_wI_ne _ _ _ (by omega), cI_w, if_neg (by omega), cI_w, if_pos ⟨rfl, rfl⟩, mF_F, if_pos rfl]
            · rw [cI_wI_ne _ _ _ (by omega), cI_w, if_neg (by omega), cI_w, if_neg (by omega), cI_w, if_pos ⟨rfl, rfl⟩, j4]
            · rw [mF_F, if_neg (by decide), mF_F, if_neg (by decide), mF_F, if_neg (by decide), mF_F, if_pos rfl, j4]
            · rw [j4]
              exact z33.ag (fun i _ => by rw [cI_wI_ne _ _ _ (by omega), cI_wI_ne _ _ _ (by omega), cI_wI_ne _ _ _ (by omega), cI_wI_ne _ _ _ (by omega)]) (fun i _ => by rfl)
            · rw [cI_w, if_pos ⟨rfl, rfl⟩, j0]; rfl
            · rw [mF_F, if_neg (by decide), mF_F, if_pos rfl, j0]; rfl
            · rw [cI_wI_ne _ _ _ (by omega), cI_wI_ne _ _ _ (by omega), cI_wI_ne _ _ _ (by omega), cI_wI_ne _ _ _ (by omega)]
              rw [j0] at hi
              exact z4 i hi
          have g2 := pl.gs (nu := nu)
          have pr2 := y5.tr pl.pr
          obtain ⟨d1, d2⟩ := dd _ pr2.2.2.2.2.1
          have p97 : nI (t0 + (tl.length + 1)) - 1 = nI (t0 + tl.length) := nI_p1 (t0 + tl.length)
          have c97 : (nI (t0 + tl.length)).toNatClampNeg = t0 + tl.length := nI_clamp (by omega)
          rw [z2, if_neg (show ¬ nI (t0 + (tl.length + 1)) ≤ nI t0 from nI_ge (by omega) (by omega)), p97, mF_F, if_pos rfl, ck_n (show t0 + tl.length < 600 by omega) (by decide), c97, mA_F, z32, mF_F, if_neg (by decide), mF_F, if_neg (by decide), mF_F, if_neg (by decide)]
          obtain ⟨e, S'', u1, u2⟩ := ih t' (g x).2.1 _ _ (by omega) m2 f2 d1 d2 (by omega)
          refine ⟨e, S'', u1, u2.pre ?_ (by omega) pr2 (by omega)⟩
          rw [y1, rc1, bs]
      · rw [if_neg (by decide), ex 2 S' (by decide)]
        exact ⟨2, S', rfl, Or.inr (Or.inr ⟨rfl, Mf, y1, y2⟩)⟩
end LOOP
