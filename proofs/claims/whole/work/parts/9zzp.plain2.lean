/-! runs: instructions that take from the stacks, jumps, tries -/
section PLAIN2
variable {z b st nd nu lim nh no h fl t0 c B0 N t : Nat} {clo who : Int32} {U : List Nat} {K : Ka} {M0 M M1 M2 : Cm} {S0 S S1 S2 : Ms} {mk : List Mk} {rc cc : Nat} {g : Nat → Nat × Nat × Nat} {pi : Nat → Nat} {J : Nat → Jt} {cl : Nat → List Nat}
theorem fl_34 (m : MBX z b st nd nu lim B0 clo M0 S0 t h fl t0 U who M S) : fl ≤ 34 * h ∧ t0 ≤ 10 * h := by
  obtain ⟨nh, no, -, -, -, -, -, -, m5, -⟩ := m; exact m5.2.2.2
theorem o_17 (X : CDX z b st nd nu K M0 S0 mk rc cc g pi J cl) (hN : 1000000 < N) (m : MBX z b st nd nu lim B0 clo M0 S0 t h fl t0 U who M S) (f : FMp z b rc g pi J h fl t0 c M S) (ht : t < 1000000) (GT : Nat → Int32 → Int32 → Int32 → Int32 → Int32 → Ms → Option (Int32 × Ms)) (ho : (g c).1 = 17) :
    ∃ e S2, fM_work N GT (nI 17) 0 0 who clo (pF S 99 (nI (10000 * b + (c + 1)))) = some (e, S2) ∧ ST1 z b st nd nu lim B0 N K clo M0 S0 rc g pi J t h fl t0 U who c M S e S2 := by
  have hh := m.hh X
  obtain ⟨-, -, p3, p4, -⟩ := X.pl f.1
  obtain ⟨c1, c2⟩ := p3 (by omega)
  obtain ⟨w1, w2, w3, w4, w5, w6⟩ := w1_nx p4 ho (by unfold ft; decide) (by decide) (by decide) (a := 1) (p := 1) rfl rfl
  obtain ⟨f34, -⟩ := fl_34 m
  obtain ⟨r1, r2, r3, r4, r5, r6⟩ := tk_at X hN m f ht (w := 9) (fo := 0) (s := 0) (by unfold cwd; rw [ho]; rfl) (by decide) (by decide)
  obtain ⟨n, hn⟩ : ∃ n, (J c).1 = n + 1 := ⟨(J c).1 - 1, by omega⟩
  rw [hn] at r5
  obtain ⟨v, M1, S1, a1, a2, a3, a4, a5⟩ := pop_ok r3 N (h := h) (fl := fl) (n := n) (by omega) (by omega) r5 r4
  have m1 := r6.pln a3
  obtain ⟨M2, S2, b1, b2, b3, b4, b5⟩ := push_ok (m1.ly X) N (h := h) (fl := fl) (n := n) (by omega) (by omega) (-v) a4 a5
  have tw1 : tw (g c) = 1 := by unfold tw; rw [if_neg (by omega)]
  rw [tw1] at c2
  have q := (r2.tr a3).tr b3
  refine ⟨0, S2, ?_, ok1 f ?_ (m1.up1.pln b3) q.pr c1 (by rw [c2, w3]; exact b5) (by rw [show (J (c + 1)).1 = n + 1 by omega]; exact b4) q.gs w4 (by omega)⟩
  · unfold fM_work fM_reckons bM_reckons_206
    rw [if_neg (by decide), if_neg (by decide), if_neg (by decide), if_neg (by decide), if_neg (by decide), if_neg (by decide), if_neg (by decide), if_neg (by decide), if_neg (by decide), if_neg (by decide), if_neg (by decide), if_neg (by decide), if_neg (by decide), if_neg (by decide), if_neg (by decide), if_neg (by decide), if_pos (by decide), a2, bs, b2]
    rfl
  · rw [r1, pf9 _ _ (r3.k 35 3 0 rfl), pp9 (r3.k 35 3 0 rfl), a1, bs, b1, bs]
theorem o_bin (X : CDX z b st nd nu K M0 S0 mk rc cc g pi J cl) (hN : 1000000 < N) (m : MBX z b st nd nu lim B0 clo M0 S0 t h fl t0 U who M S) (f : FMp z b rc g pi J h fl t0 c M S) (ht : t < 1000000) (GT : Nat → Int32 → Int32 → Int32 → Int32 → Int32 → Ms → Option (Int32 × Ms)) {o w : Nat} (ho : (g c).1 = o) (hl : (o, w) ∈ ([(18, 42), (19, 47), (20, 37), (21, 43), (22, 45), (23, 60), (24, 61)] : List (Nat × Nat))) :
    ∃ e S2, fM_work N GT (nI o) 0 0 who clo (pF S 99 (nI (10000 * b + (c + 1)))) = some (e, S2) ∧ ST1 z b st nd nu lim B0 N K clo M0 S0 rc g pi J t h fl t0 U who c M S e S2 := by
  have hh := m.hh X
  obtain ⟨-, -, p3, p4, -⟩ := X.pl f.1
  have ol := hl
  simp only [List.mem_cons, List.not_mem_nil, or_false, Prod.mk.injEq] at ol
  have o24 : 18 ≤ o ∧ o ≤ 24 := by omega
  obtain ⟨c1, c2⟩ := p3 (by omega)
  obtain ⟨w1, w2, w3, w4, w5, w6⟩ := w1_nx p4 ho (by unfold ft; omega) (by omega) (by omega) (a := 2) (p := 1) (by unfold pp; rw [if_neg (by omega), if_pos (by omega)]) (by unfold ps; rw [if_pos (by omega)])
  obtain ⟨f34, -⟩ := fl_34 m
  have hw : cwd b S0 pi (g c) = wd (nI w) (nI 0) 0 := by
    unfold cwd
    rcases ol with ⟨rfl, rfl⟩ | ⟨rfl, rfl⟩ | ⟨rfl, rfl⟩ | ⟨rfl, rfl⟩ | ⟨rfl, rfl⟩ | ⟨rfl, rfl⟩ | ⟨rfl, rfl⟩ <;> (rw [ho]; rfl)
  obtain ⟨r1, r2, r3, r4, r5, r6⟩ := tk_at X hN m f ht hw (by omega) (by decide)
  have k3 := r3.k 35 3 0 rfl
  obtain ⟨n, hn⟩ : ∃ n, (J c).1 = n + 2 := ⟨(J c).1 - 2, by omega⟩
  rw [hn] at r5
  obtain ⟨y, M1, S1, a1, a2, a3, a4, a5⟩ := pop_ok r3 N (h := h) (fl := fl) (n := n + 1) (by omega) (by omega) r5 r4
  have m1 := r6.pln a3
  obtain ⟨x, M2, S2, b1, b2, b3, b4, b5⟩ := pop_ok (m1.ly X) N (h := h) (fl := fl) (n := n) (by omega) (by omega) a4 a5
  have m2 := m1.pln b3
  have tw1 : tw (g c) = 1 := by unfold tw; rw [if_neg (by omega)]
  rw [tw1] at c2
  have q := (r2.tr a3).tr b3
  have hpf : fC_X2_perform N K (z + 35) (nI w) (nI 0) 0 (wI M (z + 38 + 2 * h) 2 (nI (pi c + 1))) = fC_X2_reckon N K (z + 35) (nI w) x y M2 := by
    rcases ol with ⟨-, rfl⟩ | ⟨-, rfl⟩ | ⟨-, rfl⟩ | ⟨-, rfl⟩ | ⟨-, rfl⟩ | ⟨-, rfl⟩ | ⟨-, rfl⟩
    · rw [pf42 _ _ k3, a1, bs, b1, bs]
    · rw [pf47 _ _ k3, a1, bs, b1, bs]
    · rw [pf37 _ _ k3, a1, bs, b1, bs]
    · rw [pf43 _ _ k3, a1, bs, b1, bs]
    · rw [pf45 _ _ k3, a1, bs, b1, bs]
    · rw [pf60 _ _ k3, a1, bs, b1, bs]
    · rw [pf61 _ _ k3, a1, bs, b1, bs]
  have hwk : fM_work N GT (nI o) 0 0 who clo (pF S 99 (nI (10000 * b + (c + 1)))) = if (o = 19 ∨ o = 20) ∧ y = 0 then some (1, pF (pF S2 90 13) 91 0) else bM_reckons_106 N (nI o) y x S2 := by
    have ne : ∀ k : Nat, k < 18 → ¬ nI o = nI k := fun k hk e => by have := (nI_eq (by omega) (by omega)).mp e; omega
    unfold fM_work fM_reckons
    rw [if_neg (show ¬ nI o = (1 : Int32) from ne 1 (by decide)), if_neg (show ¬ nI o = (2 : Int32) from ne 2 (by decide)), if_neg (show ¬ nI o = (3 : Int32) from ne 3 (by decide)), if_neg (show ¬ nI o = (4 : Int32) from ne 4 (by decide)), if_neg (show ¬ nI o = (5 : Int32) from ne 5 (by decide)), if_neg (show ¬ nI o = (6 : Int32) from ne 6 (by decide)), if_neg (show ¬ nI o = (7 : Int32) from ne 7 (by decide)), if_neg (show ¬ nI o = (8 : Int32) from ne 8 (by decide)), if_neg (show ¬ nI o = (9 : Int32) from ne 9 (by decide)), if_neg (show ¬ nI o = (10 : Int32) from ne 10 (by decide)), if_neg (show ¬ nI o = (11 : Int32) from ne 11 (by decide)), if_neg (show ¬ nI o = (12 : Int32) from ne 12 (by decide)), if_neg (show ¬ nI o = (13 : Int32) from ne 13 (by decide)), if_neg (show ¬ nI o = (14 : Int32) from ne 14 (by decide)), if_neg (show ¬ nI o = (15 : Int32) from ne 15 (by decide)), if_neg (show ¬ nI o = (16 : Int32) from ne 16 (by decide)), if_neg (show ¬ nI o = (17 : Int32) from ne 17 (by decide)), a2, bs, b2, bs]
    have e94 : bM_reckons_94 N (nI o) y x S2 = if y = 0 then some (1, pF (pF S2 90 13) 91 0) else bM_reckons_106 N (nI o) y x S2 := by
      unfold bM_reckons_94 fM_fails
      rw [bs]
    by_cases h19 : o = 19
    · subst h19
      rw [if_pos (by decide), e94, bn_some]
      by_cases hy : y = 0
      · rw [if_pos hy, if_pos (show ((19 : Nat) = 19 ∨ (19 : Nat) = 20) ∧ y = 0 from ⟨Or.inl rfl, hy⟩)]
      · rw [if_neg hy, if_neg (show ¬ (((19 : Nat) = 19 ∨ (19 : Nat) = 20) ∧ y = 0) from fun w => hy w.2)]
    · by_cases h20 : o = 20
      · subst h20
        rw [if_neg (by decide), if_pos (by decide), e94, bn_some]
        by_cases hy : y = 0
        · rw [if_pos hy, if_pos (show ((20 : Nat) = 19 ∨ (20 : Nat) = 20) ∧ y = 0 from ⟨Or.inr rfl, hy⟩)]
        · rw [if_neg hy, if_neg (show ¬ (((20 : Nat) = 19 ∨ (20 : Nat) = 20) ∧ y = 0) from fun w => hy w.2)]
      · rw [if_neg (show ¬ nI o = (19 : Int32) from fun e => h19 ((nI_eq (b := 19) (by omega) (by omega)).mp e)), if_neg (show ¬ nI o = (20 : Int32) from fun e => h20 ((nI_eq (b := 20) (by omega) (by omega)).mp e)), bn_some, if_neg (show ¬ ((o = 19 ∨ o = 20) ∧ y = 0) from fun w => w.1.elim h19 h20)]
  rcases bin_w k3 hl x y (N := N) with ⟨d1, d2, d3⟩ | ⟨d1, v, d3, d4⟩
  · refine ⟨1, _, by rw [hwk, if_pos (show (o = 19 ∨ o = 20) ∧ y = 0 from ⟨d1, d2⟩)], er1 (by omega) (by rw [mF_F, if_neg (by decide), mF_F, if_pos rfl]; decide) (M2 := M2) ?_ (m2.up1.pln (((PLN.rf z h fl t0 M2 S2).pF (by omega)).pF (by omega))) hh.2 ((q.pF (by omega)).pF (by omega)).pr ((b5.pFe (by decide)).pFe (by decide)) ((b4.pFe (by decide)).pFe (by decide)) ((q.pF (by omega)).pF (by omega)).gs⟩
    rw [r1, hpf, d3]
    rfl
  · obtain ⟨M3, S3, e1, e2, e3, e4, e5⟩ := push_ok (m2.ly X) N (h := h) (fl := fl) (n := n) (by omega) (by omega) v b4 b5
    refine ⟨0, S3, by rw [hwk, if_neg d1, d4, e2]; rfl, ok1 f ?_ (m2.up1.pln e3) (q.tr e3).pr c1 (by rw [c2, w3]; exact e5) (by rw [show (J (c + 1)).1 = n + 1 by omega]; exact e4) (q.tr e3).gs w4 (by omega)⟩
    rw [r1, hpf, d3, e1, bs]
theorem o_8 (X : CDX z b st nd nu K M0 S0 mk rc cc g pi J cl) (hN : 1000000 < N) (m : MBX z b st nd nu lim B0 clo M0 S0 t h fl t0 U who M S) (f : FMp z b rc g pi J h fl t0 c M S) (ht : t < 1000000) (GT : Nat → Int32 → Int32 → Int32 → Int32 → Int32 → Ms → Option (Int32 × Ms)) (ho : (g c).1 = 8) :
    ∃ e S2, fM_work N GT (nI 8) 0 0 who clo (pF S 99 (nI (10000 * b + (c + 1)))) = some (e, S2) ∧ ST1 z b st nd nu lim B0 N K clo M0 S0 rc g pi J t h fl t0 U who c M S e S2 := by
  have hh := m.hh X
  obtain ⟨-, -, p3, p4, -⟩ := X.pl f.1
  obtain ⟨c1, c2⟩ := p3 (by omega)
  obtain ⟨w1, w2, w3, w4, w5, w6⟩ := w1_nx p4 ho (by unfold ft; decide) (by decide) (by decide) (a := 1) (p := 0) rfl rfl
  obtain ⟨f34, -⟩ := fl_34 m
  obtain ⟨r1, r2, r3, r4, r5, r6⟩ := tk_at X hN m f ht (w := 14) (fo := 0) (s := 0) (by unfold cwd; rw [ho]; rfl) (by decide) (by decide)
  obtain ⟨n, hn⟩ : ∃ n, (J c).1 = n + 1 := ⟨(J c).1 - 1, by omega⟩
  rw [hn] at r5
  obtain ⟨v, M1, S1, a1, a2, a3, a4, a5⟩ := pop_ok r3 N (h := h) (fl := fl) (n := n) (by omega) (by omega) r5 r4
  have m1 := r6.pln a3
  have tw1 : tw (g c) = 1 := by unfold tw; rw [if_neg (by omega)]
  rw [tw1] at c2
  have q := r2.tr a3
  have hwk : fM_work N GT (nI 8) 0 0 who clo (pF S 99 (nI (10000 * b + (c + 1)))) = if v = 0 then some (1, pF (pF S1 90 11) 91 0) else some (0, S1) := by
    unfold fM_work fM_fails bM_work_244
    rw [if_neg (by decide), if_neg (by decide), if_neg (by decide), if_neg (by decide), if_neg (by decide), if_neg (by decide), if_neg (by decide), if_pos (by decide), a2, bs]
    rfl
  by_cases hv : v = 0
  · refine ⟨1, _, by rw [hwk, if_pos hv], er1 (by omega) (by rw [mF_F, if_neg (by decide), mF_F, if_pos rfl]; decide) (M2 := M1) ?_ (m1.up1.pln (((PLN.rf z h fl t0 M1 S1).pF (by omega)).pF (by omega))) hh.2 ((q.pF (by omega)).pF (by omega)).pr ((a5.pFe (by decide)).pFe (by decide)) ((a4.pFe (by decide)).pFe (by decide)) ((q.pF (by omega)).pF (by omega)).gs⟩
    rw [r1, pf14 (r3.k 35 3 0 rfl), a1, bs, if_pos hv]
    rfl
  · refine ⟨0, S1, by rw [hwk, if_neg hv], ok1 f ?_ m1.up1 q.pr c1 (by rw [c2, w3]; exact a5) (by rw [show (J (c + 1)).1 = n by omega]; exact a4) q.gs w4 (by omega)⟩
    rw [r1, pf14 (r3.k 35 3 0 rfl), a1, bs, if_neg hv, bs]
theorem o_9 (X : CDX z b st nd nu K M0 S0 mk rc cc g pi J cl) (hN : 1000000 < N) (m : MBX z b st nd nu lim B0 clo M0 S0 t h fl t0 U who M S) (f : FMp z b rc g pi J h fl t0 c M S) (ht : t < 1000000) (GT : Nat → Int32 → Int32 → Int32 → Int32 → Int32 → Ms → Option (Int32 × Ms)) (ho : (g c).1 = 9) :
    ∃ e S2, fM_work N GT (nI 9) (nI (g c).2.1) 0 who clo (pF S 99 (nI (10000 * b + (c + 1)))) = some (e, S2) ∧ ST1 z b st nd nu lim B0 N K clo M0 S0 rc g pi J t h fl t0 U who c M S e S2 := by
  have hh := m.hh X
  have v9 := (X.pl f.1).2.2.2.2.1.2.2.2.2.2 ho
  obtain ⟨r1, r2, r3, r4, r5, r6⟩ := tk_at X hN m f ht (w := 15) (fo := (g c).2.1) (s := 0) (by unfold cwd; rw [ho]; rfl) (by decide) (by omega)
  refine ⟨1, pF (pF (pF S 99 (nI (10000 * b + (c + 1)))) 90 (nI (g c).2.1)) 91 0, ?_, er1 (by omega) (by rw [mF_F, if_neg (by decide), mF_F, if_pos rfl]; exact fun w => by have := (nI_eq (b := 0) (by omega) (by decide)).mp w; omega) (M2 := (wI M (z + 38 + 2 * h) 2 (nI (pi c + 1)))) ?_ (r6.up1.pln (((PLN.rf z h fl t0 _ _).pF (by omega)).pF (by omega))) hh.2 ((r2.pF (by omega)).pF (by omega)).pr ((r4.pFe (by decide)).pFe (by decide)) ((r5.pFe (by decide)).pFe (by decide)) ((r2.pF (by omega)).pF (by omega)).gs⟩
  · unfold fM_work fM_fails
    rw [if_neg (by decide), if_neg (by decide), if_neg (by decide), if_neg (by decide), if_neg (by decide), if_neg (by decide), if_neg (by decide), if_neg (by decide), if_pos (by decide)]
    rfl
  · rw [r1, pf15 (r3.k 35 3 0 rfl)]
    rfl
/-- where a jump goes -/
theorem w1_to (X : CDX z b st nd nu K M0 S0 mk rc cc g pi J cl) (hc : c < rc) (h1 : 10 ≤ (g c).1) (h2 : (g c).1 ≤ 13) : (g c).2.1 < rc ∧ pi (g c).2.1 < cc ∧ (J (g c).2.1).1 + pp (g c).1 = (J c).1 ∧ (J (g c).2.1).2.1 = (if (g c).1 = 13 then (J c).2.1.tail else (J c).2.1) ∧ (J c).2.2 < (J (g c).2.1).2.2 ∧ (J c).2.2 < 90 := by
  obtain ⟨-, -, -, -, -, -, a7, -⟩ := (X.pl hc).2.2.2.1
  obtain ⟨b1, b2, b3, b4⟩ := (X.pl hc).2.2.2.1.2.2.2.1 h1 h2
  have hr : (J rc).2.2 = 0 := X.2.2.2.2.2.2.2.1
  have lt : (g c).2.1 < rc := by
    by_cases e : (g c).2.1 = rc
    · rw [e, hr] at b4; omega
    · omega
  have := (X.pl lt).1
  have := tw_pos (g (g c).2.1)
  exact ⟨lt, by omega, b2, b3, b4, (a7 (by omega)).1⟩
theorem o_10 (X : CDX z b st nd nu K M0 S0 mk rc cc g pi J cl) (hN : 1000000 < N) (m : MBX z b st nd nu lim B0 clo M0 S0 t h fl t0 U who M S) (f : FMp z b rc g pi J h fl t0 c M S) (ht : t < 1000000) (GT : Nat → Int32 → Int32 → Int32 → Int32 → Int32 → Ms → Option (Int32 × Ms)) (ho : (g c).1 = 10) :
    ∃ e S2, fM_work N GT (nI 10) (nI (10000 * b + (g c).2.1)) 0 who clo (pF S 99 (nI (10000 * b + (c + 1)))) = some (e, S2) ∧ ST1 z b st nd nu lim B0 N K clo M0 S0 rc g pi J t h fl t0 U who c M S e S2 := by
  have hh := m.hh X
  obtain ⟨j1, j2, j3, j4, j5, j6⟩ := w1_to X f.1 (by omega) (by omega)
  rw [ho] at j3 j4
  rw [if_neg (by decide)] at j4
  have c8 : cc ≤ 8000 := X.1.2.2.2.2.1
  obtain ⟨r1, r2, r3, r4, r5, r6⟩ := tk_at X hN m f ht (w := 16) (fo := pi (g c).2.1) (s := 0) (by unfold cwd; rw [ho]; rfl) (by decide) (by omega)
  have h5 : cR (wI M (z + 38 + 2 * h) 2 (nI (pi c + 1))) (z + 35) 5 = some (z + 38 + 2 * h) := by obtain ⟨nh, no, -, -, -, m2, -⟩ := r6; exact m2.2.1
  have q2 : PLN z h fl t0 _ _ _ _ := ((PLN.rf z h fl t0 (wI M (z + 38 + 2 * h) 2 (nI (pi c + 1))) (pF S 99 (nI (10000 * b + (c + 1))))).wf (k := 2) (v := nI (pi (g c).2.1)) (by decide) (by omega)).pF (k := 99) (v := nI (10000 * b + (g c).2.1)) (by omega)
  refine ⟨0, pF (pF S 99 (nI (10000 * b + (c + 1)))) 99 (nI (10000 * b + (g c).2.1)), ?_, ok1 f (M2 := wI (wI M (z + 38 + 2 * h) 2 (nI (pi c + 1))) (z + 38 + 2 * h) 2 (nI (pi (g c).2.1))) ?_ (r6.up1.pln q2) (r2.tr q2).pr j1 (by rw [j4]; exact r4.nx rfl) ?_ (r2.tr q2).gs j5 (by omega)⟩
  · unfold fM_work
    rw [if_neg (by decide), if_neg (by decide), if_neg (by decide), if_neg (by decide), if_neg (by decide), if_neg (by decide), if_neg (by decide), if_neg (by decide), if_neg (by decide), if_pos (by decide)]
  · rw [r1, pf16 _ _ (r3.k 35 3 0 rfl), pp16 r3 (by omega) h5, bs]
  · have : (J (g c).2.1).1 = (J c).1 := by
      have : pp 10 = 0 := rfl
      omega
    rw [this]
    exact (r5.wf (by omega)).pFe (by decide)
theorem o_11 (X : CDX z b st nd nu K M0 S0 mk rc cc g pi J cl) (hN : 1000000 < N) (m : MBX z b st nd nu lim B0 clo M0 S0 t h fl t0 U who M S) (f : FMp z b rc g pi J h fl t0 c M S) (ht : t < 1000000) (GT : Nat → Int32 → Int32 → Int32 → Int32 → Int32 → Ms → Option (Int32 × Ms)) (ho : (g c).1 = 11) :
    ∃ e S2, fM_work N GT (nI 11) (nI (10000 * b + (g c).2.1)) 0 who clo (pF S 99 (nI (10000 * b + (c + 1)))) = some (e, S2) ∧ ST1 z b st nd nu lim B0 N K clo M0 S0 rc g pi J t h fl t0 U who c M S e S2 := by
  have hh := m.hh X
  obtain ⟨-, -, p3, p4, -⟩ := X.pl f.1
  obtain ⟨c1, c2⟩ := p3 (by omega)
  obtain ⟨w1, w2, w3, w4, w5, w6⟩ := w1_nx p4 ho (by unfold ft; decide) (by decide) (by decide) (a := 1) (p := 0) rfl rfl
  obtain ⟨j1, j2, j3, j4, j5, j6⟩ := w1_to X f.1 (by omega) (by omega)
  rw [ho] at j3 j4
  rw [if_neg (by decide)] at j4
  have c8 : cc ≤ 8000 := X.1.2.2.2.2.1
  obtain ⟨f34, -⟩ := fl_34 m
  obtain ⟨r1, r2, r3, r4, r5, r6⟩ := tk_at X hN m f ht (w := 17) (fo := pi (g c).2.1) (s := 0) (by unfold cwd; rw [ho]; rfl) (by decide) (by omega)
  obtain ⟨n, hn⟩ : ∃ n, (J c).1 = n + 1 := ⟨(J c).1 - 1, by omega⟩
  rw [hn] at r5
  obtain ⟨v, M1, S1, a1, a2, a3, a4, a5⟩ := pop_ok r3 N (h := h) (fl := fl) (n := n) (by omega) (by omega) r5 r4
  have m1 := r6.pln a3
  have h5 : cR M1 (z + 35) 5 = some (z + 38 + 2 * h) := by obtain ⟨nh, no, -, -, -, m2, -⟩ := m1; exact m2.2.1
  have tw1 : tw (g c) = 1 := by unfold tw; rw [if_neg (by omega)]
  rw [tw1] at c2
  have q := r2.tr a3
  have hwk : fM_work N GT (nI 11) (nI (10000 * b + (g c).2.1)) 0 who clo (pF S 99 (nI (10000 * b + (c + 1)))) = if v = 0 then some (0, pF S1 99 (nI (10000 * b + (g c).2.1))) else some (0, S1) := by
    unfold fM_work bM_work_275
    rw [if_neg (by decide), if_neg (by decide), if_neg (by decide), if_neg (by decide), if_neg (by decide), if_neg (by decide), if_neg (by decide), if_neg (by decide), if_neg (by decide), if_neg (by decide), if_pos (by decide), a2, bs, pF_self]
  have jn : (J (g c).2.1).1 = n := by
    have : pp 11 = 1 := rfl
    omega
  by_cases hv : v = 0
  · have q2 : PLN z h fl t0 _ _ _ _ := ((PLN.rf z h fl t0 M1 S1).wf (k := 2) (v := nI (pi (g c).2.1)) (by decide) (by omega)).pF (k := 99) (v := nI (10000 * b + (g c).2.1)) (by omega)
    refine ⟨0, _, by rw [hwk, if_pos hv], ok1 f (M2 := wI M1 (z + 38 + 2 * h) 2 (nI (pi (g c).2.1))) ?_ (m1.up1.pln q2) (q.tr q2).pr j1 (by rw [j4]; exact a5.nx rfl) (by rw [jn]; exact (a4.wf (by omega)).pFe (by decide)) (q.tr q2).gs j5 (by omega)⟩
    rw [r1, pf17 _ _ (r3.k 35 3 0 rfl), pp17 (r3.k 35 3 0 rfl), a1, bs]
    dsimp only
    rw [if_pos hv, nn_s h5, gd_k ((m1.ly X).2.2.1 h (by omega)).2.1, bs]
  · refine ⟨0, S1, by rw [hwk, if_neg hv], ok1 f ?_ m1.up1 q.pr c1 (by rw [c2, w3]; exact a5) (by rw [show (J (c + 1)).1 = n by omega]; exact a4) q.gs w4 (by omega)⟩
    rw [r1, pf17 _ _ (r3.k 35 3 0 rfl), pp17 (r3.k 35 3 0 rfl), a1, bs]
    dsimp only
    rw [if_neg hv, bs]
theorem o_12 (X : CDX z b st nd nu K M0 S0 mk rc cc g pi J cl) (hN : 1000000 < N) (m : MBX z b st nd nu lim B0 clo M0 S0 t h fl t0 U who M S) (f : FMp z b rc g pi J h fl t0 c M S) (ht : t < 1000000) (GT : Nat → Int32 → Int32 → Int32 → Int32 → Int32 → Ms → Option (Int32 × Ms)) (ho : (g c).1 = 12) :
    ∃ e S2, fM_work N GT (nI 12) (nI (10000 * b + (g c).2.1)) 0 who clo (pF S 99 (nI (10000 * b + (c + 1)))) = some (e, S2) ∧ ST1 z b st nd nu lim B0 N K clo M0 S0 rc g pi J t h fl t0 U who c M S e S2 := by
  have hh := m.hh X
  obtain ⟨-, -, p3, p4, -⟩ := X.pl f.1
  obtain ⟨c1, c2⟩ := p3 (by omega)
  obtain ⟨j1, j2, j3, j4, j5, j6⟩ := w1_to X f.1 (by omega) (by omega)
  obtain ⟨a1, -, a3, -, a5, -⟩ := p4
  rw [ho] at a1 a3 a5
  obtain ⟨b1, b2, b3⟩ := a3 (by unfold ft; decide)
  rw [if_pos (Or.inl rfl)] at b2
  have z0 := a5 (Or.inl rfl)
  have l10 := (X.pl c1).2.2.2.1.1.2.1
  rw [b2, List.length_cons] at l10
  have c8 : cc ≤ 8000 := X.1.2.2.2.2.1
  obtain ⟨f34, t10⟩ := fl_34 m
  obtain ⟨r1, r2, r3, r4, r5, r6⟩ := tk_at X hN m f ht (w := 18) (fo := pi (g c).2.1) (s := 0) (by unfold cwd; rw [ho]; rfl) (by decide) (by omega)
  have h5 : cR (wI M (z + 38 + 2 * h) 2 (nI (pi c + 1))) (z + 35) 5 = some (z + 38 + 2 * h) := by obtain ⟨nh, no, -, -, -, m2, -⟩ := r6; exact m2.2.1
  have tw1 : tw (g c) = 1 := by unfold tw; rw [if_neg (by omega)]
  rw [tw1] at c2
  have q2 : PLN z h fl t0 _ _ _ _ := ((((PLN.rf z h fl t0 (wI M (z + 38 + 2 * h) 2 (nI (pi c + 1))) (pF S 99 (nI (10000 * b + (c + 1))))).wh (k := (J c).2.1.length) (v := nI (pi (g c).2.1)) (by omega)).wf (k := 5) (v := nI ((J c).2.1.length + 1)) (by decide) (by omega)).p96 (k := t0 + (J c).2.1.length) (v := nI (10000 * b + (g c).2.1)) (by omega)).pF (k := 97) (v := nI (t0 + (J c).2.1.length + 1)) (by omega)
  have hS : fM_work N GT (nI 12) (nI (10000 * b + (g c).2.1)) 0 who clo (pF S 99 (nI (10000 * b + (c + 1)))) = some (0, pF (pA (pF S 99 (nI (10000 * b + (c + 1)))) 96 (t0 + (J c).2.1.length) (nI (10000 * b + (g c).2.1))) 97 (nI (t0 + (J c).2.1.length + 1))) := by
    unfold fM_work
    rw [if_neg (by decide), if_neg (by decide), if_neg (by decide), if_neg (by decide), if_neg (by decide), if_neg (by decide), if_neg (by decide), if_neg (by decide), if_neg (by decide), if_neg (by decide), if_neg (by decide), if_pos (by decide), r4.2.2.2.2.1, ck_n (show t0 + (J c).2.1.length < 600 by omega) (by decide), nI_clamp (by omega), mF_A, r4.2.2.2.2.1, nI_1]
  refine ⟨0, _, hS, ok1 f (M2 := wI (wI (wI M (z + 38 + 2 * h) 2 (nI (pi c + 1))) (z + 38 + 2 * h + 1) (J c).2.1.length (nI (pi (g c).2.1))) (z + 38 + 2 * h) 5 (nI ((J c).2.1.length + 1))) ?_ (r6.up1.pln q2) (r2.tr q2).pr c1 ?_ ?_ (r2.tr q2).gs (b3 (by decide)) (by omega)⟩
  · rw [r1, pf18 _ _ (r3.k 35 3 0 rfl), pp18 r3 (by omega) h5 (m := (J c).2.1.length) (by omega) r4.2.2.2.1, bs]
  · rw [c2, b2]
    obtain ⟨y1, y2, y3, y4, y5, y6⟩ := r4
    refine ⟨?_, y2, ?_, ?_, ?_, ?_, ?_, y6.ag (fun j hj => ?_) (fun j hj => ?_)⟩
    · rw [cI_w, if_neg (by omega), cI_wI_ne _ _ _ (by omega)]; exact y1
    · rw [cI_w, if_neg (by omega), cI_wI_ne _ _ _ (by omega)]; exact y3
    · rw [cI_w, if_pos ⟨rfl, rfl⟩, List.length_cons]
    · rw [mF_F, if_pos rfl, List.length_cons]; rfl
    · rw [cI_wI_ne _ _ _ (by omega), cI_w, if_pos ⟨rfl, rfl⟩]
    · rw [mA_F, mA_A, if_pos ⟨rfl, rfl⟩]
    · rw [cI_wI_ne _ _ _ (by omega), cI_w, if_neg (by omega)]
    · rw [mA_F, mA_A, if_neg (by omega)]
  · have : (J (c + 1)).1 = (J c).1 := by
      have : pp 12 = 0 := rfl
      have : ps 12 = 0 := rfl
      omega
    rw [this]
    exact ((r5.wh (by omega)).wf (by omega)).p96.pFe (by decide)
theorem o_13 (X : CDX z b st nd nu K M0 S0 mk rc cc g pi J cl) (hN : 1000000 < N) (m : MBX z b st nd nu lim B0 clo M0 S0 t h fl t0 U who M S) (f : FMp z b rc g pi J h fl t0 c M S) (ht : t + 1 < 1000000) (GT : Nat → Int32 → Int32 → Int32 → Int32 → Int32 → Ms → Option (Int32 × Ms)) (ho : (g c).1 = 13) :
    ∃ e S2, fM_work N GT (nI 13) (nI (10000 * b + (g c).2.1)) 0 who clo (pF S 99 (nI (10000 * b + (c + 1)))) = some (e, S2) ∧ ST1 z b st nd nu lim B0 N K clo M0 S0 rc g pi J t h fl t0 U who c M S e S2 := by
  have hh := m.hh X
  have tw2 : tw (g c) = 2 := by unfold tw; rw [if_pos (Or.inl ho)]
  obtain ⟨p1, -, -, p4, -⟩ := X.pl f.1
  rw [tw2] at p1
  obtain ⟨j1, j2, j3, j4, j5, j6⟩ := w1_to X f.1 (by omega) (by omega)
  rw [if_pos ho] at j4
  rw [ho] at j3
  have ne : (J c).2.1 ≠ [] := p4.2.2.2.2.2.1 (Or.inl ho)
  obtain ⟨x, tl, hx⟩ := List.exists_cons_of_ne_nil ne
  rw [hx, List.tail_cons] at j4
  have c8 : cc ≤ 8000 := X.1.2.2.2.2.1
  obtain ⟨r1, r2, r3, r4, r5, r6⟩ := tk_at X hN m f (by omega) (w := 19) (fo := 0) (s := 0) (by unfold cwd; rw [ho]; rfl) (by decide) (by omega)
  rw [hx] at r4
  obtain ⟨y1, y2, y3, y4, y5, -, -, y6⟩ := r4
  rw [List.length_cons] at y4 y5
  have h5 : cR (wI M (z + 38 + 2 * h) 2 (nI (pi c + 1))) (z + 35) 5 = some (z + 38 + 2 * h) := by obtain ⟨nh, no, -, -, -, m2, -⟩ := r6; exact m2.2.1
  have q1 : PLN z h fl t0 _ _ _ _ := ((PLN.rf z h fl t0 (wI M (z + 38 + 2 * h) 2 (nI (pi c + 1))) (pF S 99 (nI (10000 * b + (c + 1))))).wf (k := 5) (v := nI tl.length) (by decide) (by omega)).pF (k := 97) (v := nI (t0 + tl.length)) (by omega)
  have m1 := r6.up1.pln q1
  have w2 : cL M0 (st + 10) (pi c + 1) = wd (nI 16) (nI (pi (g c).2.1)) 0 := X.2.2.2.2.1.2.2.2.2.1 c f.1 ho
  obtain ⟨s1, s2, s3⟩ := rn_at X hN m1 (q := pi c + 1) (by rw [cI_w, if_neg (by omega)]; exact y1) (by omega) ht w2 (by decide) (by omega)
  have h5' : cR (wI (wI (wI M (z + 38 + 2 * h) 2 (nI (pi c + 1))) (z + 38 + 2 * h) 5 (nI tl.length)) (z + 38 + 2 * h) 2 (nI (pi c + 1 + 1))) (z + 35) 5 = some (z + 38 + 2 * h) := h5
  have q2 : PLN z h fl t0 _ _ _ _ := (s2.wf (k := 2) (v := nI (pi (g c).2.1)) (by decide) (by omega)).pF (k := 99) (v := nI (10000 * b + (g c).2.1)) (by omega)
  have q := (r2.tr q1).tr q2
  refine ⟨0, pF (pF (pF S 99 (nI (10000 * b + (c + 1)))) 97 (nI (t0 + tl.length))) 99 (nI (10000 * b + (g c).2.1)), ?_, Or.inl ⟨rfl, t + 1 + 1, _, (g c).2.1, ?_, m1.up1.pln q2, fmp_mk j1 ?_ ?_, q.pr, ?_, by omega⟩⟩
  · unfold fM_work
    rw [if_neg (by decide), if_neg (by decide), if_neg (by decide), if_neg (by decide), if_neg (by decide), if_neg (by decide), if_neg (by decide), if_neg (by decide), if_neg (by decide), if_neg (by decide), if_neg (by decide), if_neg (by decide), if_pos (by decide), y5, show nI (t0 + (tl.length + 1)) - 1 = nI (t0 + tl.length) from nI_p1 (t0 + tl.length)]
  · rw [r1, pf19 _ _ (r3.k 35 3 0 rfl), pp19 r3 (by omega) h5 (m := tl.length) y4, bs, s1, pf16 _ _ (s3.k 35 3 0 rfl), pp16 s3 (by omega) h5', bs]
  · rw [j4]
    refine ⟨by rw [cI_w, if_pos ⟨rfl, rfl⟩], by rw [mF_F, if_pos rfl], ?_, ?_, ?_, y6.ag (fun j hj => ?_) (fun j hj => by rfl)⟩
    · rw [cI_w, if_neg (by omega), cI_w, if_neg (by omega), cI_w, if_neg (by omega)]; exact y3
    · rw [cI_w, if_neg (by omega), cI_w, if_neg (by omega), cI_w, if_pos ⟨rfl, rfl⟩]
    · rw [mF_F, if_neg (by decide), mF_F, if_pos rfl]
    · rw [cI_wI_ne _ _ _ (by omega), cI_wI_ne _ _ _ (by omega), cI_wI_ne _ _ _ (by omega)]
  · have : (J (g c).2.1).1 = (J c).1 := by
      have : pp 13 = 0 := rfl
      omega
    rw [this]
    exact (((((r5.wf (by omega)).pFe (by decide)).wf (by omega)).wf (by omega)).pFe (by decide))
  · have := q.gs (nu := nu)
    omega
theorem o_7 (X : CDX z b st nd nu K M0 S0 mk rc cc g pi J cl) (hB : B0 + 1000000 ≤ 1000000000) (hN : 1000000 < N) (m : MBX z b st nd nu lim B0 clo M0 S0 t h fl t0 U who M S) (f : FMp z b rc g pi J h fl t0 c M S) (ht : t < 1000000) (GT : Nat → Int32 → Int32 → Int32 → Int32 → Int32 → Ms → Option (Int32 × Ms)) (ho : (g c).1 = 7) :
    ∃ e S2, fM_work N GT (nI 7) (nI (g c).2.1) 0 who clo (pF S 99 (nI (10000 * b + (c + 1)))) = some (e, S2) ∧ ST1 z b st nd nu lim B0 N K clo M0 S0 rc g pi J t h fl t0 U who c M S e S2 := by
  have hh := m.hh X
  obtain ⟨b2, -⟩ := X.b2
  obtain ⟨-, -, p3, p4, -⟩ := X.pl f.1
  obtain ⟨c1, c2⟩ := p3 (by omega)
  obtain ⟨w1, w2, w3, w4, w5, w6⟩ := w1_nx p4 ho (by unfold ft; decide) (by decide) (by decide) (a := 1) (p := 0) rfl rfl
  obtain ⟨f34, -⟩ := fl_34 m
  have hd : (g c).2.1 < nd := (X.pl f.1).2.2.2.2.1.2.2.2.2.1 (Or.inl ho)
  have hd24 : nd ≤ 24 := X.1.2.2.1
  obtain ⟨r1, r2, r3, r4, r5, r6⟩ := tk_at X hN m f ht (w := 13) (fo := (g c).2.1) (s := 0) (by unfold cwd; rw [ho]; rfl) (by decide) (by omega)
  obtain ⟨n, hn⟩ : ∃ n, (J c).1 = n + 1 := ⟨(J c).1 - 1, by omega⟩
  rw [hn] at r5
  obtain ⟨v, M1, S1, a1, a2, a3, a4, a5⟩ := pop_ok r3 N (h := h) (fl := fl) (n := n) (by omega) (by omega) r5 r4
  have m1 := r6.pln a3
  have tw1 : tw (g c) = 1 := by unfold tw; rw [if_neg (by omega)]
  rw [tw1] at c2
  have q := r2.tr a3
  obtain ⟨nh, no, n1, n2, mb⟩ := id m1
  obtain ⟨d, e1, e2, e3, e4, e5⟩ := id mb
  have hO := d.2.2.2.2.2.1
  have sd := X.2.2.2.2.2.2.2.2.2
  have h11 : mF S1 11 = nI b := by rw [d.1.2.2.2.2.1 11 (by unfold stF; omega)]; exact X.1.2.2.2.2.2.2.2.1
  have hst := X.1.1
  have kst := X.1.2.2.2.2.2.1
  have co := c_ord (N := N) (m1.ly X) sd d.1 ⟨by omega, kst⟩ e1.1 (by omega) e1.2.1 e4.1 hd hd24 hO.2.1 hO.1 v
  have mo := m_ord (who := who) N (d := (g c).2.1) b2 (by omega) h11 hO.2.2.1 hO.1 v
  have hwk : fM_work N GT (nI 7) (nI (g c).2.1) 0 who clo (pF S 99 (nI (10000 * b + (c + 1)))) = fM_orders N (nI (g c).2.1) v who S1 := by
    unfold fM_work
    rw [if_neg (by decide), if_neg (by decide), if_neg (by decide), if_neg (by decide), if_neg (by decide), if_neg (by decide), if_pos (by decide), a2, bs]
    exact bn_some _
  have hpf : RN N K z st t M = (fC_X2_giveOrder N K (z + 35) (nI (g c).2.1) v M1).bind (RN N K z st (t + 1)) := by
    rw [r1, pf13 (r3.k 35 3 0 rfl), a1, bs]
  have dc : ∀ w : Int32, DCH z M1 (odC z no who (nI (g c).2.1) v w M1) S1 (odS no who (nI (g c).2.1) v w S1) := fun w =>
    ⟨fun a ha => odC_o _ _ _ _ _ _ _ (by omega) (by omega), (odC_LR _ _ _ _ _ _ _).2, fun k hk => by rw [odS_F, if_neg (by omega)], fun k hk => odS_A _ _ _ _ _ _ (by omega), fun x y hy => by
      unfold NH at hy ⊢
      rw [odS_A _ _ _ _ _ _ (by decide), odS_A _ _ _ _ _ _ (by decide)]; exact hy⟩
  have mx : ∀ w : Int32, (w = 0 ∨ w = 1) → MBX z b st nd nu lim B0 clo M0 S0 (t + 1) h fl t0 U who (odC z no who (nI (g c).2.1) v w M1) (odS no who (nI (g c).2.1) v w S1) := fun w hw =>
    ⟨nh, no + 1, by omega, by omega, mb.dch (dc w) (by omega) (d.ord hw (by omega))⟩
  by_cases hv : v < mA S1 15 (24 * b + (g c).2.1) ∨ mA S1 16 (24 * b + (g c).2.1) < v
  · rw [if_pos hv] at co mo
    have mm := mx 0 (Or.inl rfl)
    have q2 : PR z h fl t0 M _ S _ := q.pr.tr ((dc 0).pr (fl := fl) (t0 := t0) (h := h) (by omega))
    refine ⟨1, _, hwk.trans mo, er1 (by omega) (by rw [mF_F, if_neg (by decide), mF_F, if_pos rfl]; decide) (M2 := odC z no who (nI (g c).2.1) v 0 M1) ?_ (mm.pln (((PLN.rf z h fl t0 _ _).pF (by omega)).pF (by omega))) hh.2 (q2.tr (((PLN.rf z h fl t0 _ _).pF (by omega)).pF (by omega)).pr) (((a5.dch (dc 0) (by omega)).pFe (by decide)).pFe (by decide)) (((a4.dch (dc 0)).pFe (by decide)).pFe (by decide)) ?_⟩
    · rw [hpf, co]; rfl
    · exact Nat.le_trans (((PLN.rf z h fl t0 (odC z no who (nI (g c).2.1) v 0 M1) _).pF (by omega)).pF (by omega)).gs (Nat.le_trans (dc 0).gs q.gs)
  · rw [if_neg hv] at co mo
    have mm := mx 1 (Or.inr rfl)
    obtain ⟨x, x1, x2⟩ : ∃ x, x ≤ 999999999 ∧ v = nI x := by
      obtain ⟨a0, b1, b2', b3, -, -, -, -, qd⟩ := sd
      obtain ⟨-, -, -, -, ⟨y1, y2, y3⟩, ⟨y4, y5, y6⟩, -⟩ := qd _ hd
      have A : ∀ k, stR k → mA S1 k = mA S0 k := d.1.2.2.2.2.2.1
      rw [A 15 (by unfold stR; omega), A 16 (by unfold stR; omega), y3, y6] at hv
      have h0 : ¬ v < 0 := fun w => hv (Or.inl (Int32.lt_of_lt_of_le w (nI_ge0 (by omega))))
      obtain ⟨x, x1, x2⟩ := nI_of h0
      refine ⟨x, ?_, x2⟩
      by_cases hxy : x ≤ 999999999
      · exact hxy
      · exact absurd (Or.inr (by rw [x2]; exact nI_lt (by omega) x1)) hv
    have dg : DCH z (odC z no who (nI (g c).2.1) v 1 M1) (wI (odC z no who (nI (g c).2.1) v 1 M1) (z + 18) (g c).2.1 v) (odS no who (nI (g c).2.1) v 1 S1) (pA (odS no who (nI (g c).2.1) v 1 S1) 62 (g c).2.1 v) :=
      ⟨fun a ha => by rw [cI_wI_ne _ _ _ (by omega)], rfl, fun k _ => rfl, fun k hk => by rw [mA_Ane _ _ _ (by omega)], fun x y hy => by
        unfold NH at hy ⊢
        rw [mA_Ane _ _ _ (by decide), mA_Ane _ _ _ (by decide)]; exact hy⟩
    have mg : MBX z b st nd nu lim B0 clo M0 S0 (t + 1) h fl t0 U who (wI (odC z no who (nI (g c).2.1) v 1 M1) (z + 18) (g c).2.1 v) (pA (odS no who (nI (g c).2.1) v 1 S1) 62 (g c).2.1 v) := by
      obtain ⟨nh', no', u1, u2, u3⟩ := mm
      refine ⟨nh', no', u1, u2, u3.dch dg (by omega) ?_⟩
      rw [x2]
      rw [x2] at u3
      exact u3.1.goal hd x1
    refine ⟨0, _, hwk.trans mo, ok1 f ?_ mg ((q.pr.tr ((dc 1).pr (fl := fl) (t0 := t0) (h := h) (by omega))).tr (dg.pr (by omega))) c1 ?_ ?_ (Nat.le_trans dg.gs (Nat.le_trans (dc 1).gs q.gs)) w4 (by omega)⟩
    · rw [hpf, co, bs]
    · rw [c2, w3]; exact (a5.dch (dc 1) (by omega)).dch dg (by omega)
    · rw [show (J (c + 1)).1 = n by omega]; exact (a4.dch (dc 1)).dch dg
end PLAIN2
