/-! runs: a unit comes up -/
def IOUT (z b st nd nu lim B0 N : Nat) (K : Ka) (M0 : Cm) (S0 : Ms) (Mb : Cm) (Sb : Ms) (cc t h fl t0 : Nat) (U : List Nat) (who : Int32) (P : Nat) (M : Cm) (e : Int32) (S' : Ms) : Prop :=
  (e = 0 ∧ ∃ t' M' q, RN N K z st t M = RN N K z st t' M' ∧ MBX z b st nd nu lim B0 0 M0 S0 t' h fl t0 U who M' S' ∧ (cI M' (z + 38 + 2 * h) 2 = nI q ∧ q < cc ∧ cL M0 (st + 10) q = wd (nI 20) (nI 0) 0) ∧ cI M' (z + 35) 7 = nI fl ∧ PR z h fl t0 Mb M' Sb S' ∧ F4 Sb S' ∧ t' + gS nu S' + 2 ≤ P ∧ t ≤ t') ∨
  (e = 1 ∧ ∃ t' j M', RN N K z st t M = (RSE N K z j (mF S' 90) (mF S' 91) M').bind (RN N K z st t') ∧ MBX z b st nd nu lim B0 0 M0 S0 t' h fl t0 U who M' S' ∧ cI M' (z + 38 + 2 * h) 5 = 0 ∧ j + h ≤ 24 ∧ PR z h fl t0 Mb M' Sb S' ∧ F4 Sb S' ∧ t' + gS nu S' ≤ P ∧ t ≤ t') ∨
  (e = 2 ∧ F4 Sb S' ∧ ∃ Mf, RN N K z st t M = some Mf ∧ STP z b nd nu B0 0 M0 S0 U Mf S')
section COMES
variable {z b st nd nu lim nh no h fl t0 c B0 N t sz ts dm : Nat} {clo who : Int32} {U : List Nat} {K : Ka} {M0 M M1 M2 M3 M' Mb Mf : Cm} {S0 S S1 S2 S3 Sb S' : Ms} {mk : List Mk} {rc cc : Nat} {g : Nat → Nat × Nat × Nat} {pi : Nat → Nat} {J : Nat → Jt} {cl : Nat → List Nat}
theorem STP.pF {k : Nat} {v : Int32} (hk : k = 90 ∨ k = 91 ∨ k = 95 ∨ k = 97 ∨ k = 98 ∨ k = 99) (s : STP z b nd nu B0 clo M0 S0 U Mf S) : STP z b nd nu B0 clo M0 S0 U Mf (pF S k v) := by
  obtain ⟨nh, no, M2, n1, n2, d, u1, h1, h2, ⟨h3, h4, h5, h6, h7⟩, h8⟩ := s
  exact ⟨nh, no, M2, n1, n2, d.mach ((MCH.rf z M2 S).pF (by omega)), u1, h1, h2, ⟨h3, h4, h5, h6, by rw [mF_F, if_neg (by omega)]; exact h7⟩, h8⟩
theorem pl_ok (X : CDX z b st nd nu K M0 S0 mk rc cc g pi J cl) (hP : RPB z nu M0 S0) (hB : B0 + 1000000 ≤ 1000000000) (hN : 1000000 < N) (hC : CUs z b st nd nu lim B0 N K M0 S0 dm) {u k : Nat} (huU : u ∈ U) (hub : mA Sb 54 u = 0) (hdb : dn Sb (fun _ => 1) nu ≤ dm + 1) (hkb : dn Sb (wt b nu S0) nu + 5 ≤ k + wt b nu S0 u) {r0 c0 : Nat} {bl : List Nat} (hm : umk r0 c0 bl ∈ mk) (h32 : mA S0 32 (24 * b + u) = nI (10000 * b + r0)) {q : Nat} (hq : q + 1 = c0) (s : BRS z b st nd nu lim B0 M0 S0 Mb Sb t h fl t0 U (nI u) q M S) (hT : t + gS nu S + 190 ≤ 1000000) :
    ∃ e S', bM_comesUp_123 N (gT N k) (nI u) (nI (24 * b + u)) 0 S = bM_comesUp_201 N (gT N k) (nI u) e S' ∧ IOUT z b st nd nu lim B0 N K M0 S0 Mb Sb cc t h fl t0 U (nI u) (t + gS nu S + 184) M e S' := by
  have hn24 : nu ≤ 24 := X.1.2.1
  obtain ⟨b2, rc8⟩ := X.b2
  obtain ⟨dn1, un, st1⟩ := s.dn (wt b nu S0) huU hub
  obtain ⟨dn2, -, -⟩ := s.dn (fun _ => 1) huU hub
  obtain ⟨A, F⟩ := s.row
  obtain ⟨m, ⟨f2, f3, f5⟩, sz', pb, f4⟩ := s
  have hh := m.hh X
  have hL := m.ly X
  obtain ⟨mr, mc⟩ := X.2.2.2.2.2.2.1 _ hm
  obtain ⟨-, mp, mc3⟩ := mc rfl
  obtain ⟨-, j1, j2, l1, -, -, w8⟩ := mc3 rfl
  have w8' : cL M0 (st + 10) (c0 - 1) = wd 8 0 0 := w8 rfl
  have mp' : pi r0 = c0 := mp
  have mr' : r0 < rc := mr
  have pl := X.pl mr'
  have tp := tw_pos (g r0)
  have eq : c0 - 1 = q := by omega
  rw [eq] at w8'
  obtain ⟨r1, r2, r3⟩ := rn_at X hN m f2 (show q < cc by omega) (by omega) (w := 8) (f := 0) (s := 0) w8' (by decide) (by decide)
  have ma := m.pln r2
  obtain ⟨np, p1, p2, p3, p4, p5⟩ := hP.2
  have h71 : mF S 71 = nI np := (F 71 (by unfold stF; omega)).trans p3
  obtain ⟨ed, ed1, ed2, c16, c10, hF1⟩ : ∃ ed, ed ≤ 30 ∧ mA S 55 u = nI ed ∧ cI M (z + 16) u = cI M0 (z + 16) u ∧ cI M (z + 10) u = nI ed ∧ cI M (z + 38 + 2 * h) 1 = nI u := by
    obtain ⟨nh', no', -, -, d, -, -, -, e4, -⟩ := m
    obtain ⟨-, x1, -, -, -, ⟨ed, x2, x3⟩, -⟩ := d.2.2.2.2.2.2.1 u (by omega)
    exact ⟨ed, x2, x3, by rw [d.1.1 (z + 16) (by unfold stA; omega)], x1.trans x3, e4.1⟩
  have h5 : cR (wI M (z + 38 + 2 * h) 2 (nI (q + 1))) (z + 35) 5 = some (z + 38 + 2 * h) := by obtain ⟨nh', no', -, -, -, w, -⟩ := ma; exact w.2.1
  have pf := pf8 (N := N) r3 (show h < 25 by omega) h5 (u := u) (e := ed) (by omega) (by rw [cI_w, if_neg (by omega)]; exact hF1) (by rw [cI_wI_ne _ _ _ (by omega)]; exact c10) (nI 0) 0
  rw [cI_wI_ne _ _ _ (show z + 16 ≠ z + 38 + 2 * h by omega), c16] at pf
  have bit := p4 u ed (by omega) ed1
  obtain ⟨q1, q2⟩ := p126 N (gT N k) (bM_comesUp_184 N (gT N k)) (u := u) (np := np) (by omega) (nI (24 * b + u)) h71 p1 N 0 (by omega) (by omega)
  unfold bM_comesUp_123
  by_cases hp : (cI M0 (z + 16) u >>> (nI ed &&& 31)) &&& 1 = 1
  · obtain ⟨k', k1, k2, k3⟩ := bit.mp hp
    have e := q2 ⟨k', by omega, k1, by rw [A 69 (by unfold stR; omega)]; exact k2, by rw [A 70 (by unfold stR; omega), ed2]; exact k3⟩
    refine ⟨1, pF (pF S 90 14) 91 0, e.trans ?_, Or.inr (Or.inl ⟨rfl, t + 1, 0, _, ?_, ma.up1.pln (((PLN.rf z h fl t0 _ S).pF (by omega)).pF (by omega)), ?_, by omega, pb.tr ((r2.pF (by omega)).pF (by omega)).pr, f4, ?_, by omega⟩)⟩
    · unfold bM_comesUp_184
      rw [if_neg (by decide)]
    · rw [r1]
      show (fC_X2_perform N K (z + 35) (nI 8) (nI 0) 0 _).bind _ = _
      rw [pf, if_pos hp]
      rfl
    · rw [cI_w, if_neg (by omega)]; exact f5
    · have := ((r2.pF (k := 90) (v := 14) (by omega)).pF (k := 91) (v := 0) (by omega)).gs (nu := nu)
      omega
  · have e := q1 (fun k' _ k1 w => hp (bit.mpr ⟨k', k1, by rw [← A 69 (by unfold stR; omega)]; exact w.1, by rw [← A 70 (by unfold stR; omega), w.2]; exact ed2⟩))
    obtain ⟨k3, rfl⟩ : ∃ k3, k = k3 + 4 := ⟨k - 4, by omega⟩
    obtain ⟨s1, s2, s3, s4, s5, s6, s7, s8⟩ := sz'
    have vi : (nI (24 * b + u)).toNatClampNeg = 24 * b + u := nI_clamp (by omega)
    have hr : RN N K z st t M = RN N K z st (t + 1) (wI M (z + 38 + 2 * h) 2 (nI (q + 1))) := by
      rw [r1]
      show (fC_X2_perform N K (z + 35) (nI 8) (nI 0) 0 _).bind _ = _
      rw [pf, if_neg hp, bs]
    have qa : PLN z h fl t0 M (wI M (z + 38 + 2 * h) 2 (nI (q + 1))) S (pF (pF S 99 (nI (10000 * b + r0))) 98 0) := (r2.pF (by omega)).pF (by omega)
    have m2 := (m.pln qa).up1
    have fm : FMp z b rc g pi J h fl t0 r0 (wI M (z + 38 + 2 * h) 2 (nI (q + 1))) (pF (pF S 99 (nI (10000 * b + r0))) 98 0) := by
      have j1' : (J r0).1 = 0 := j1
      have j2' : (J r0).2.1 = [] := j2
      refine fmp_mk mr' ⟨?_, ?_, ?_, ?_, ?_, ?_⟩ ⟨?_, ?_, fun j hj => ?_⟩
      · rw [cI_w, if_pos ⟨rfl, rfl⟩, mp', hq]
      · rw [mF_F, if_neg (by decide), mF_F, if_pos rfl]
      · rw [cI_w, if_neg (by omega), mF_F, if_pos rfl]; exact f3
      · rw [cI_w, if_neg (by omega), j2']; exact f5
      · rw [j2', mF_F, if_neg (by decide), mF_F, if_neg (by decide)]; exact s4
      · rw [j2']; trivial
      · rw [cI_wI_ne _ _ _ (by omega), j1']; exact s1
      · rw [j1', mF_F, if_neg (by decide), mF_F, if_neg (by decide)]; exact s2
      · rw [cI_wI_ne _ _ _ (by omega)]
        rw [j1'] at hj
        exact s3 j hj
    have rk := rk_le X mr'
    have ga := qa.gs (nu := nu)
    have da : ∀ w, dn (pF (pF S 99 (nI (10000 * b + r0))) 98 0) w nu ≤ dn S w nu := fun w => dn_le (S := S) (S' := pF (pF S 99 (nI (10000 * b + r0))) 98 0) w (fun v hv => hv) nu
    have da1 := da (fun _ => 1)
    have da2 := da (wt b nu S0)
    obtain ⟨e', S'', w1, w2⟩ := wk_lp X hP hB hN (fun _ => hC) k3 (mF S 99) (mF S 98) N (t + 1) r0 _ _ (by omega) m2 fm (fun _ => by omega) (fun _ => by omega) (by omega)
    have h184 : bM_comesUp_184 N (gT N (k3 + 4)) (nI u) (nI (24 * b + u)) 0 S = bM_comesUp_201 N (gT N (k3 + 4)) (nI u) e' (pF (pF (pF (pF S'' 99 (mF S 99)) 98 (mF S 98)) 95 (nI fl)) 97 (nI t0)) := by
      unfold bM_comesUp_184
      rw [if_pos rfl, ck_n (show 24 * b + u < 48 by omega) (by decide), vi, A 32 (by unfold stR; omega), h32, gT_3]
      unfold fM_works
      rw [s2, s4]
      have w1' : lM_works_37 N (gT N (k3 + 3)) (bM_works_157 N (gT N (k3 + 3))) N (nI u) 0 (mF S 99) (mF S 98) (nI fl) (nI t0) 0 (pF (pF S 99 (nI (10000 * b + r0))) 98 0) = bM_works_157 N (gT N (k3 + 3)) (mF S 99) (mF S 98) (nI fl) (nI t0) e' S'' := w1
      rw [w1']
      rfl
    have q4 : F4 Sb (pF (pF (pF (pF S'' 99 (mF S 99)) 98 (mF S 98)) 95 (nI fl)) 97 (nI t0)) := by
      obtain ⟨x1, x2, x3, x4⟩ := f4
      refine ⟨?_, ?_, ?_, ?_⟩
      · rw [mF_F, if_neg (by decide), mF_F, if_pos rfl, ← s2]; exact x1
      · rw [mF_F, if_pos rfl, ← s4]; exact x2
      · rw [mF_F, if_neg (by decide), mF_F, if_neg (by decide), mF_F, if_pos rfl]; exact x3
      · rw [mF_F, if_neg (by decide), mF_F, if_neg (by decide), mF_F, if_neg (by decide), mF_F, if_pos rfl]; exact x4
    have qz : ∀ M2 : Cm, PLN z h fl t0 M2 M2 S'' (pF (pF (pF (pF S'' 99 (mF S 99)) 98 (mF S 98)) 95 (nI fl)) 97 (nI t0)) := fun M2 => ((((PLN.rf z h fl t0 M2 S'').pF (by omega)).pF (by omega)).pF (by omega)).pF (by omega)
    have gz := (qz M).gs (nu := nu)
    refine ⟨e', _, e.trans h184, ?_⟩
    rcases w2 with ⟨rfl, t', M', c', y1, y2, y3, y4, y5, y6, y7⟩ | ⟨rfl, t', j, M', y1, y2, y3, y4, y5, y6, y7⟩ | ⟨rfl, Mf, y1, y2⟩
    · have pc := X.pl y3.1
      have tc := tw_pos (g c')
      have jc := (pc.2.2.2.1.2.1 y4).1
      refine Or.inl ⟨rfl, t', M', pi c', hr.trans y1, y2.pln (qz M'), ⟨y3.2.1, by omega, ?_⟩, ?_, pb.tr (qa.pr.tr (y5.tr (qz M').pr)), q4, by omega, by omega⟩
      · rw [pc.2.1]
        unfold cwd
        rw [y4]; rfl
      · have := y3.stk.1
        rw [jc, Nat.add_zero] at this
        exact this
    · exact Or.inr (Or.inl ⟨rfl, t', j, M', hr.trans y1, y2.pln (qz M'), y3.1, y4, pb.tr (qa.pr.tr (y5.tr (qz M').pr)), q4, by omega, by omega⟩)
    · exact Or.inr (Or.inr ⟨rfl, q4, Mf, hr.trans y1, (((y2.pF (by omega)).pF (by omega)).pF (by omega)).pF (by omega)⟩)
end COMES
