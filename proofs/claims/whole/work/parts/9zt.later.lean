/-! one that waited: settled by both, or wrong with both -/
def LOK (N z b bn sm nd nu cc : Nat) (K : Ka) (M : Cm) (S : Ms) (x y : Nat × Nat × Nat) (u : Nat) : Prop :=
  u < nu ∧ VO bn S nd nu y ∧ (x.1 = 25 ∧ (y.1 = 3 ∨ y.1 = 4) ∨ x.1 = 26 ∧ y.1 = 5 ∨ x.1 = 27 ∧ y.1 = 6) ∧
  (∀ M' i, CF sm M M' → i < cc → cL M' (sm + 10) i = cw bn S x → fC_X3_settleOne N K (z + 7) (nI i) (nI (x.1 - 4)) M' = some (0, wL (leanC sm M' x.2.2 u) (sm + 10) i (cw bn S y))) ∧
  (∀ S' k c, SFr b S S' → R5 S' k (x.2.1, c, x.1, x.2.2) → k < 2000 → c < 10000 → mA S' 39 (10000 * bn + c) = (rfd (10000 * bn) x).1 → mA S' 41 (10000 * bn + c) = (rfd (10000 * bn) x).2.2 → ∃ S'', fM_late N (nI k) S' = some S'' ∧ SFr b S' S'' ∧ mA S'' 34 = mA (leanS bn S' x.2.2 u) 34 ∧ (∀ j, mA S'' 39 j = if j = 10000 * bn + c then (rfd (10000 * bn) y).1 else mA S' 39 j) ∧ (∀ j, mA S'' 40 j = if j = 10000 * bn + c then (rfd (10000 * bn) y).2.1 else mA S' 40 j) ∧ ∀ j, mA S'' 41 j = if j = 10000 * bn + c then (rfd (10000 * bn) y).2.2 else mA S' 41 j)
def LBAD (N z b bn sm cc : Nat) (K : Ka) (M : Cm) (S : Ms) (x : Nat × Nat × Nat) (kd tk : Nat) : Prop :=
  (kd = 2 ∨ kd = 6) ∧ x.2.1 ≤ tk ∧ tk ≤ lend (x.2.1, 0, x.1, 0) ∧
  (∀ M' i, CF sm M M' → i < cc → cL M' (sm + 10) i = cw bn S x → ∃ M'', fC_X3_settleOne N K (z + 7) (nI i) (nI (x.1 - 4)) M' = some (nI (kd + 16 * tk), M'') ∧ CF sm M' M'' ∧ cL M'' = cL M') ∧
  (∀ S' k c, SFr b S S' → R5 S' k (x.2.1, c, x.1, x.2.2) → k < 2000 → c < 10000 → ∃ S'' p, fM_late N (nI k) S' = some S'' ∧ p ≤ 4000 ∧ mA S 5 tk = nI p ∧ mF S'' 8 = nI (kd + 16 * p) ∧ AgO b S' S'')
theorem cw_late (bn : Nat) (S : Ms) {o tok i : Nat} (h : 25 ≤ o ∧ o ≤ 27) : cw bn S (o, tok, i) = wd (nI (o - 4)) (nI tok) (nI i - 1) := by
  have : o = 25 ∨ o = 26 ∨ o = 27 := by omega
  unfold cw cwd
  rcases this with rfl | rfl | rfl
  · simp; rfl
  · simp; rfl
  · simp; rfl
section LATER
variable {N z b bn sm size t nd nu nm a cc : Nat} {K0 K : Ka} {M : Cm} {S : Ms}
theorem lt_ok (hb : b = 0 ∨ b = 1) (hbn : bn = 1 - b) (hn : NNw z K M S bn sm nd nu nm) (hp : PU K M S bn sm nu) (rr : cR M sm 0 = some (sm + 1) ∧ cR M sm 4 = some (sm + 5) ∧ cR M sm 7 = some (sm + 8)) (hz : z + 174 ≤ sm) (hk : kz K0 ≤ sm) (p : PT z K M S size t a) (c : CR z K M sm cc) (h42 : mF S 42 = nI (10000 * bn)) (hN : 4010 < N)
    {o tok i1 : Nat} (ho : 25 ≤ o ∧ o ≤ 27) (htok : tok < t) (ht2 : o ≠ 27 → tok + 2 < t) (hi1 : i1 ≤ nu) (w1 : mA S 4 tok = 1) (w2 : o ≠ 27 → mA S 4 (tok + 2) = 1) :
    (∃ y u, LOK N z b bn sm nd nu cc K M S (o, tok, i1) y u) ∨ ∃ kd tk, LBAD N z b bn sm cc K M S (o, tok, i1) kd tk := by
  obtain ⟨n1, n2, n3, n4, n5, n6, n7, n8, n9, n10, n11, -⟩ := id hn
  obtain ⟨pt1, pt2, -⟩ := id hp
  have t4 : t ≤ 4000 := by have := p.2.1.1; have := p.2.1.2.1; omega
  have b2 : bn < 2 := by omega
  have k7 : kd K (z + 7) = 4 := p.1.k 7 4 0 rfl
  have k1 : kd K (z + 1) = 7 := p.1.k 1 7 0 rfl
  have m8 : mF S 8 = 0 := p.2.2.2.2.1
  obtain ⟨-, -, c3, -, c5, c6, c7, c8, c9⟩ := id c
  have val : ∀ q, q < t → mA S 4 q = 1 → cL M (z + 5) q = mL S 6 q := fun q hq h1 => by
    obtain ⟨-, -, s⟩ := p.2.1.2.2.2.2.2.2.2 q hq
    rcases s with ⟨-, s2, -⟩ | ⟨s1, -⟩ | ⟨s1, -⟩ | ⟨s1, -⟩
    · exact s2
    · rw [h1] at s1; exact absurd s1 (by decide)
    · rw [h1] at s1; exact absurd s1 (by decide)
    · rw [h1] at s1; exact absurd s1 (by decide)
  have plc : ∀ q, q < t → ∃ p', p' ≤ 4000 ∧ mA S 5 q = nI p' := fun q hq => by
    obtain ⟨-, s, -⟩ := p.2.1.2.2.2.2.2.2.2 q hq
    exact s
  have pM : ∀ M', CF sm M M' → PT z K M' S size t a := fun M' f => p.cst (fun q hq => f.1 q (by omega)) (fun s _ => by rw [f.1 (z + 7) (by omega)]) (f.2.1 _ (by omega)) f.2.2
  have o4 : o - 4 < 256 := by omega
  -- the class up to the unit
  have cls0 : ∀ M' i, CF sm M M' → i < cc → cL M' (sm + 10) i = cw bn S (o, tok, i1) → fC_X3_settleOne N K (z + 7) (nI i) (nI (o - 4)) M' = ((fC_X8_rankOf N K (mL S 6 tok) (sm + 5) (nI nu) M').bind fun o55 => if 0 ≤ o55.1 then (nn (cR o55.2 (z + 7) 1) fun a9 => gd (kd K a9 == 6) ((fC_X5_leanOn N K a9 (nI i1 - 1) o55.1 o55.2).bind fun o80 => if nI (o - 4) = 23 then (nn (cR o80 (z + 7) 1) fun a12 => gd (kd K a12 == 6) (nn (cR o80 a12 9) fun a13 => (fC_X5_word N K 6 o55.1 0 o80).bind fun o102 => gd (kd K a13 == 23) (ck (nI i) (le K a13) (some (0, wL o102.2 a13 i o102.1))))) else (nn (cR o80 (z + 7) 0) fun a10 => nn (cR o80 (z + 7) 1) fun a11 => gd (kd K a10 == 7) ((fC_X6_valueAt N K a10 (nI tok + 2) o80).bind fun o121 => gd (kd K a11 == 6) ((fC_X5_find N K a11 o55.1 o121.1 o121.2).bind fun o124 => if 0 ≤ o124.1 then (if nI (o - 4) = 22 then ((bC_X3_settleOne_154 N K) (z + 7) (nI i) (nI tok) o124.1 1 o124.2) else ((bC_X3_settleOne_154 N K) (z + 7) (nI i) (nI tok) o124.1 0 o124.2)) else (some (2 + (16 * (nI tok + 2)), o124.2))))))) else (some (2 + (16 * nI tok), o55.2))) := fun M' i f hi hw => by
    have q3 : cR M' (z + 7) 1 = some sm := by rw [f.2.2]; exact n3
    have q5 : cR M' sm 9 = some (sm + 10) := by rw [f.2.2]; exact c5
    have q4 : cR M' sm 4 = some (sm + 5) := by rw [f.2.2]; exact rr.2.1
    have q0 : cR M' (z + 7) 0 = some (z + 1) := (pM M' f).1.r 7 0 1 (by decide)
    have q11 : cI M' sm 11 = nI nu := by rw [f.1 sm (by omega)]; exact n10
    have vv : cL M' (z + 5) tok = mL S 6 tok := by rw [f.2.1 _ (by omega)]; exact val tok htok w1
    unfold fC_X3_settleOne
    rw [gd_k k7, nn_s q3, gd_k n4, nn_s q5, gd_k c6, ck_n (show i < le K (sm + 10) by omega) c7, nn_s q3, gd_k n4, nn_s q5, gd_k c6, ck_n (show i < le K (sm + 10) by omega) c7, nn_s q0, gd_k k1, nI_clamp (show i < 2 ^ 31 by omega), hw, cw_late bn S ho, wd_first o4 (show tok < 16777216 by omega), wd_second o4, va_ok (pM M' f) N (by omega), bs]
    dsimp only
    rw [nn_s q3, gd_k n4, nn_s q3, gd_k n4, nn_s q4, q11, vv]
  have e16 : ∀ q w : Nat, (nI w : Int32) + 16 * nI q = nI (w + 16 * q) := fun q w => by rw [show (16 : Int32) = nI 16 from rfl, nI_mul, nI_add]
  -- the reference up to the unit
  have ref0 : ∀ S' k c', SFr b S S' → R5 S' k (tok, c', o, i1) → k < 2000 → fM_late N (nI k) S' = ((fM_findUnit N (mL S 6 tok) S').bind fun o12 => if 0 ≤ o12.1 then (ck (nI k) 2000 (if (mA o12.2 47 k) < 0 then ((bM_late_70 N) (nI k) o12.1 o12.2) else (ck (nI k) 2000 (ck ((24 * ((24 * (mF o12.2 12)) + (mA o12.2 47 k))) + o12.1) 1152 ((bM_late_70 N) (nI k) o12.1 (pA o12.2 34 ((24 * ((24 * (mF o12.2 12)) + (mA o12.2 47 k))) + o12.1 : Int32).toNatClampNeg (vp_nar .boolean 1))))))) else (ck (nI k) 2000 ((fM_wrong N 2 (pF o12.2 7 (mA o12.2 43 k))).bind fun o32 => some o32))) := fun S' k c' f hr hk' => by
    have r43 : mA S' 43 k = nI tok := hr.1
    unfold fM_late
    rw [ck_n hk' (by decide), nI_clamp (show k < 2 ^ 31 by omega), r43, ck_n (show tok < 4002 by omega) (by decide), nI_clamp (show tok < 2 ^ 31 by omega), f.2.2.1]
  rcases uq_ok (b := b) hn rr.2.1 N (by omega) (mL S 6 tok) with ⟨u, u1, uM, uS⟩ | ⟨uM, uS⟩
  · -- the unit is told
    have clsu : ∀ M' i, CF sm M M' → i < cc → cL M' (sm + 10) i = cw bn S (o, tok, i1) → fC_X3_settleOne N K (z + 7) (nI i) (nI (o - 4)) M' = (if nI (o - 4) = 23 then some (0, wL (leanC sm M' i1 u) (sm + 10) i (wd 6 (nI u) 0)) else ((fC_X5_find N K sm (nI u) (cL (leanC sm M' i1 u) (z + 5) (tok + 2)) (leanC sm M' i1 u)).bind fun o124 => if 0 ≤ o124.1 then (if nI (o - 4) = 22 then ((bC_X3_settleOne_154 N K) (z + 7) (nI i) (nI tok) o124.1 1 o124.2) else ((bC_X3_settleOne_154 N K) (z + 7) (nI i) (nI tok) o124.1 0 o124.2)) else (some (nI (2 + 16 * (tok + 2)), o124.2)))) := fun M' i f hi hw => by
      have q3 : cR M' (z + 7) 1 = some sm := by rw [f.2.2]; exact n3
      have q6 : cR M' sm 6 = some (sm + 7) := by rw [f.2.2]; exact pt2.1
      have q11 : cI M' sm 11 = nI nu := by rw [f.1 sm (by omega)]; exact n10
      have f1 : CF sm M (leanC sm M' i1 u) := f.tr (leanC_f i1 u)
      have l3 : cR (leanC sm M' i1 u) (z + 7) 1 = some sm := by rw [f1.2.2]; exact n3
      have l5 : cR (leanC sm M' i1 u) sm 9 = some (sm + 10) := by rw [f1.2.2]; exact c5
      have l0 : cR (leanC sm M' i1 u) (z + 7) 0 = some (z + 1) := (pM _ f1).1.r 7 0 1 (by decide)
      rw [cls0 M' i f hi hw, uM M' f, bs]
      dsimp only
      rw [if_pos (nI_pos' (by omega)), nn_s q3, gd_k n4, ln_c n4 q11 ⟨q6, pt2.2.1, pt2.2.2.1, pt2.2.2.2.1⟩ hi1 N, bs]
      have ew : fC_X5_word N K 6 (nI u) 0 (leanC sm M' i1 u) = some (wd 6 (nI u) 0, leanC sm M' i1 u) := rfl
      by_cases e23 : nI (o - 4) = 23
      · rw [if_pos e23, if_pos e23, nn_s l3, gd_k n4, nn_s l5, ew, bs]
        dsimp only
        rw [gd_k c6, ck_n (show i < le K (sm + 10) by omega) c7]
      · have o27 : o ≠ 27 := fun q => e23 (by rw [q]; rfl)
        have := ht2 o27
        rw [if_neg e23, if_neg e23, nn_s l0, nn_s l3, gd_k k1, show (2 : Int32) = nI 2 from rfl, nI_add, va_ok (pM _ f1) N (by omega), bs]
        dsimp only
        rw [gd_k n4]
        have e2 : nI 2 + 16 * nI (tok + 2) = nI (2 + 16 * (tok + 2)) := e16 _ _
        rw [e2]
    have refu : ∀ S' k c', SFr b S S' → R5 S' k (tok, c', o, i1) → k < 2000 → fM_late N (nI k) S' = bM_late_70 N (nI k) (nI u) (leanS bn S' i1 u) := fun S' k c' f hr hk' => by
      have r47 : mA S' 47 k = nI i1 - 1 := hr.2.2.2.2
      have e12 : mF S' 12 = nI bn := (f.1 12 (by decide) (by decide) (by decide)).trans n2
      rw [ref0 S' k c' f hr hk', uS S' f, bs]
      dsimp only
      rw [if_pos (nI_pos' (by omega)), ck_n hk' (by decide), r47]
      unfold leanS
      by_cases q : i1 = 0
      · subst q
        rw [if_pos (show nI 0 - 1 < 0 by decide), if_pos rfl]
      · obtain ⟨m, rfl⟩ : ∃ m, i1 = m + 1 := ⟨i1 - 1, by omega⟩
        have e24 : (24 : Int32) * (24 * nI bn + nI m) + nI u = nI (24 * (24 * bn + m) + u) := by rw [e24b, nI_add, e24b, nI_add]
        rw [if_neg q, sub1 m (by omega), if_neg (nI_pos (by omega)), e12, e24, ck_n hk' (by decide), ck_n (show 24 * (24 * bn + m) + u < 1152 by omega) (by decide), nI_clamp (show 24 * (24 * bn + m) + u < 2 ^ 31 by omega), vpn1]
        rfl
    by_cases e27 : o = 27
    · -- a TOUCH
      subst e27
      left
      refine ⟨(6, u, 0), u, u1, ⟨fun q => absurd q (by simp), fun q => absurd q (by simp), fun q => absurd q (by simp), fun _ => u1, fun q => absurd q (by simp), fun q => absurd q (by simp), fun q => absurd q (by simp)⟩, Or.inr (Or.inr ⟨rfl, rfl⟩), fun M' i f hi hw => ?_, fun S' k c' f hr hk' hc' h39 h41 => ?_⟩
      · have q := clsu M' i f hi hw
        rw [if_pos (show nI (27 - 4) = 23 from rfl)] at q
        rw [q]
        rfl
      · have q := refu S' k c' f hr hk'
        have fl := leanS_f (S := S') hb hbn (i := i1) (u := u) (by omega) (by omega)
        have f' := f.tr fl
        have r44 : mA (leanS bn S' i1 u) 44 k = -1 := by rw [fl.2.1 44 (by decide) (by decide) (by decide)]; exact hr.2.1
        have r45 : mA (leanS bn S' i1 u) 45 k = nI c' := by rw [fl.2.1 45 (by decide) (by decide) (by decide)]; exact hr.2.2.1
        have e42 : mF (leanS bn S' i1 u) 42 = nI (10000 * bn) := (f'.1 42 (by decide) (by decide) (by decide)).trans h42
        have q2 : bM_late_70 N (nI k) (nI u) (leanS bn S' i1 u) = some (pA (leanS bn S' i1 u) 40 (10000 * bn + c') (nI u)) := by
          unfold bM_late_70
          rw [ck_n hk' (by decide), ck_n hk' (by decide), nI_clamp (show k < 2 ^ 31 by omega), r44, if_neg (by decide), e42, r45, nI_add, ck_n (show 10000 * bn + c' < 20000 by omega) (by decide), nI_clamp (show 10000 * bn + c' < 2 ^ 31 by omega)]
        have l39 : ∀ k', 39 ≤ k' ∧ k' ≤ 41 → mA (leanS bn S' i1 u) k' = mA S' k' := fun k' hk => by
          unfold leanS
          split
          · rfl
          · exact mA_Ane _ _ _ (by omega)
        have fl2 : SFr b (leanS bn S' i1 u) (pA (leanS bn S' i1 u) 40 (10000 * bn + c') (nI u)) := ⟨fun _ _ _ _ => rfl, fun k' _ a2 _ => mA_Ane _ _ _ (by omega), rfl, AgO.pA (ob_n hb hbn (w := 10000) rfl (by decide) (by omega) (by omega)) _⟩
        refine ⟨pA (leanS bn S' i1 u) 40 (10000 * bn + c') (nI u), q.trans q2, fl.tr fl2, mA_Ane _ _ _ (by decide), fun j => ?_, fun j => ?_, fun j => ?_⟩
        · rw [mA_Ane _ _ _ (by decide), l39 39 (by decide)]
          by_cases y : j = 10000 * bn + c'
          · rw [if_pos y, y, h39]; rfl
          · rw [if_neg y]
        · rw [mA_A, l39 40 (by decide)]
          by_cases y : j = 10000 * bn + c'
          · rw [if_pos ⟨rfl, y⟩, if_pos y]; rfl
          · rw [if_neg (fun w => y w.2), if_neg y]
        · rw [mA_Ane _ _ _ (by decide), l39 41 (by decide)]
          by_cases y : j = 10000 * bn + c'
          · rw [if_pos y, y, h41]; rfl
          · rw [if_neg y]
    · -- a name of a unit
      have t2 := ht2 e27
      have e23 : ¬ nI (o - 4) = 23 := fun q => by have := (nI_eq (b := 23) (by omega) (by decide)).mp q; omega
      have vv2 : ∀ M', CF sm M M' → cL M' (z + 5) (tok + 2) = mL S 6 (tok + 2) := fun M' f => by rw [f.2.1 _ (by omega)]; exact val _ t2 (w2 e27)
      have le2 : lend (tok, 0, o, 0) = tok + 2 := by unfold lend; exact if_neg e27
      obtain ⟨pl, pl1, pl2⟩ := plc (tok + 2) t2
      have cls2 : ∀ M' i, CF sm M M' → i < cc → cL M' (sm + 10) i = cw bn S (o, tok, i1) → fC_X3_settleOne N K (z + 7) (nI i) (nI (o - 4)) M' = ((fC_X5_find N K sm (nI u) (mL S 6 (tok + 2)) (leanC sm M' i1 u)).bind fun o124 => if 0 ≤ o124.1 then (if nI (o - 4) = 22 then ((bC_X3_settleOne_154 N K) (z + 7) (nI i) (nI tok) o124.1 1 o124.2) else ((bC_X3_settleOne_154 N K) (z + 7) (nI i) (nI tok) o124.1 0 o124.2)) else (some (nI (2 + 16 * (tok + 2)), o124.2))) := fun M' i f hi hw => by
        rw [clsu M' i f hi hw, if_neg e23, vv2 _ (f.tr (leanC_f i1 u))]
      have ref2 : ∀ S' k c', SFr b S S' → R5 S' k (tok, c', o, i1) → k < 2000 → fM_late N (nI k) S' = ((fM_looks N (nI u) (mL S 6 (tok + 2)) (pF (leanS bn S' i1 u) 7 (nI (tok + 2)))).bind fun o122 => if o122.1 = 0 then ((fM_wrong N 2 o122.2).bind fun o130 => some o130) else (ck (nI k) 2000 ((fM_place N (nI (10000 * bn + c')) (mA o122.2 46 k) o122.2).bind fun o142 => some o142))) := fun S' k c' f hr hk' => by
        have fl := leanS_f (S := S') hb hbn (i := i1) (u := u) (by omega) (by omega)
        have f' := f.tr fl
        have r44 : mA (leanS bn S' i1 u) 44 k = nI (tok + 2) := by
          rw [fl.2.1 44 (by decide) (by decide) (by decide)]
          have := hr.2.1
          exact this.trans (if_neg e27)
        have r44' : mA (pF (leanS bn S' i1 u) 7 (nI (tok + 2))) 44 k = nI (tok + 2) := r44
        have r45 : mA (leanS bn S' i1 u) 45 k = nI c' := by rw [fl.2.1 45 (by decide) (by decide) (by decide)]; exact hr.2.2.1
        have e42 : mF (leanS bn S' i1 u) 42 = nI (10000 * bn) := (f'.1 42 (by decide) (by decide) (by decide)).trans h42
        have l6 : mL (pF (leanS bn S' i1 u) 7 (nI (tok + 2))) 6 (tok + 2) = mL S 6 (tok + 2) := by show mL (leanS bn S' i1 u) 6 (tok + 2) = _; rw [f'.2.2.1]
        rw [refu S' k c' f hr hk']
        unfold bM_late_70
        rw [ck_n hk' (by decide), ck_n hk' (by decide), nI_clamp (show k < 2 ^ 31 by omega), r44, if_pos (nI_pos' (by omega)), ck_n hk' (by decide), ck_n hk' (by decide), r44', ck_n (show tok + 2 < 4002 by omega) (by decide), nI_clamp (show tok + 2 < 2 ^ 31 by omega), l6, e42, r45, nI_add]
      -- what the reference's search leaves
      have sf2 : ∀ S', SFr b S S' → SFr b S (pF (leanS bn S' i1 u) 7 (nI (tok + 2))) := fun S' f => (f.tr (leanS_f (S := S') hb hbn (i := i1) (u := u) (by omega) (by omega))).tr ⟨fun k h1 _ _ => by rw [mF_F, if_neg h1], fun _ _ _ _ => rfl, rfl, AgO.pF o7 _⟩
      have a53 : ∀ (S' : Ms) (r : Nat → Int32), AgO b S' (rw53 S' r) := fun S' r => ⟨fun _ _ => rfl, fun k i h => by rw [rw53_A _ _ h.2.2], fun _ _ _ => rfl⟩
      have sf53 : ∀ (S' : Ms) (r : Nat → Int32), SFr b S' (rw53 S' r) := fun S' r => ⟨fun _ _ _ _ => rfl, fun k _ _ h => rw53_A _ _ h, rfl, a53 S' r⟩
      rcases fq_ok (b := b) (K0 := K0) hn hp rr hz hk N (by omega) (mL S 6 (tok + 2)) u1 with ⟨w, s, q1, q2, q3, q4⟩ | ⟨q3, q4⟩
      · -- found
        obtain ⟨s8, sl⟩ := slot_k hp q1 q2
        have fin : ∀ (ts k0 : Int32), (ts = 1 ↔ o = 26) → (ts = 0 ∨ ts = 1) → (k0 = 0 ∨ k0 = 1) → SLs S bn w s k0 → (∃ y u, LOK N z b bn sm nd nu cc K M S (o, tok, i1) y u) ∨ ∃ kd tk, LBAD N z b bn sm cc K M S (o, tok, i1) kd tk := fun ts k0 hts hts2 hk0 hsl => by
          have s27 : mA S 27 (8 * (24 * bn + w) + s) = k0 := hsl.2
          have e22 : (nI (o - 4) = 22) ↔ ts = 1 := by
            rw [hts]
            exact ⟨fun q => by have := (nI_eq (b := 22) (by omega) (by decide)).mp q; omega, fun q => by rw [q]; rfl⟩
          have c154 : ∀ M' i, CF sm M M' → i < cc → cL M' (sm + 10) i = cw bn S (o, tok, i1) → fC_X3_settleOne N K (z + 7) (nI i) (nI (o - 4)) M' = bC_X3_settleOne_154 N K (z + 7) (nI i) (nI tok) (nI (8 * w + s)) ts (leanC sm M' i1 u) := fun M' i f hi hw => by
            rw [cls2 M' i f hi hw, q3 _ (f.tr (leanC_f i1 u)), bs]
            dsimp only
            rw [if_pos (nI_pos' (by omega))]
            rcases hts2 with h0 | h0
            · rw [if_neg (fun y => by rw [e22.mp y] at h0; exact absurd h0 (by decide)), h0]
            · rw [if_pos (e22.mpr h0), h0]
          have rplace : ∀ S' k c', SFr b S S' → R5 S' k (tok, c', o, i1) → k < 2000 → ∃ r', fM_late N (nI k) S' = ((fM_place N (nI (10000 * bn + c')) ts (pF (pF (rw53 (pF (leanS bn S' i1 u) 7 (nI (tok + 2))) r') 51 (nI w)) 52 (nI s))).bind fun o142 => some o142) := fun S' k c' f hr hk' => by
            obtain ⟨r', l1⟩ := q4 _ (sf2 S' f)
            refine ⟨r', ?_⟩
            have fl := leanS_f (S := S') hb hbn (i := i1) (u := u) (by omega) (by omega)
            have r46 : mA (pF (pF (rw53 (pF (leanS bn S' i1 u) 7 (nI (tok + 2))) r') 51 (nI w)) 52 (nI s)) 46 k = ts := by
              show mA (rw53 (pF (leanS bn S' i1 u) 7 (nI (tok + 2))) r') 46 k = ts
              rw [rw53_A _ _ (by decide)]
              show mA (leanS bn S' i1 u) 46 k = ts
              rw [fl.2.1 46 (by decide) (by decide) (by decide)]
              refine hr.2.2.2.1.trans ?_
              rcases hts2 with h0 | h0
              · rw [h0, if_neg (fun y => by rw [hts.mpr y] at h0; exact absurd h0 (by decide))]
              · rw [h0, if_pos (hts.mp h0)]
            rw [ref2 S' k c' f hr hk', l1, bs]
            dsimp only
            rw [if_neg (by decide), ck_n hk' (by decide), r46]
          -- the reference's state at its place
          have stt : ∀ S' r', SFr b S S' → SFr b S' (pF (pF (rw53 (pF (leanS bn S' i1 u) 7 (nI (tok + 2))) r') 51 (nI w)) 52 (nI s)) := fun S' r' f => by
            have fl := leanS_f (S := S') hb hbn (i := i1) (u := u) (by omega) (by omega)
            have g1 : SFr b (leanS bn S' i1 u) (pF (leanS bn S' i1 u) 7 (nI (tok + 2))) := ⟨fun k h1 _ _ => by rw [mF_F, if_neg h1], fun _ _ _ _ => rfl, rfl, AgO.pF o7 _⟩
            have g2 := sf53 (pF (leanS bn S' i1 u) 7 (nI (tok + 2))) r'
            have g3 : ∀ X : Ms, SFr b X (pF (pF X 51 (nI w)) 52 (nI s)) := fun X => ⟨fun k _ h2 h3 => by rw [mF_F, if_neg h3, mF_F, if_neg h2], fun _ _ _ _ => rfl, rfl, (AgO.pF (k := 51) (by unfold OF; omega) _).tr (AgO.pF (k := 52) (by unfold OF; omega) _)⟩
            exact ((fl.tr g1).tr g2).tr (g3 _)
          have e27' : ∀ S' r', SFr b S S' → mA (pF (pF (rw53 (pF (leanS bn S' i1 u) 7 (nI (tok + 2))) r') 51 (nI w)) 52 (nI s)) 27 (8 * (24 * bn + w) + s) = k0 := fun S' r' f => by
            rw [(f.tr (stt S' r' f)).2.1 27 (by decide) (by decide) (by decide)]; exact s27
          have pl0 : ∀ S' r' c', SFr b S S' → c' < 10000 → fM_place N (nI (10000 * bn + c')) ts (pF (pF (rw53 (pF (leanS bn S' i1 u) 7 (nI (tok + 2))) r') 51 (nI w)) 52 (nI s)) = (if ts = 0 then ((bM_place_40 N) (nI (10000 * bn + c')) ts k0 (pF (pF (rw53 (pF (leanS bn S' i1 u) 7 (nI (tok + 2))) r') 51 (nI w)) 52 (nI s))) else (if k0 = 0 then ((bM_place_40 N) (nI (10000 * bn + c')) ts k0 (pF (pF (rw53 (pF (leanS bn S' i1 u) 7 (nI (tok + 2))) r') 51 (nI w)) 52 (nI s))) else ((fM_wrong N 6 (pF (pF (rw53 (pF (leanS bn S' i1 u) 7 (nI (tok + 2))) r') 51 (nI w)) 52 (nI s))).bind fun o37 => (bM_place_40 N) (nI (10000 * bn + c')) ts k0 o37))) := fun S' r' c' f hc => by
            have g12 : mF (pF (pF (rw53 (pF (leanS bn S' i1 u) 7 (nI (tok + 2))) r') 51 (nI w)) 52 (nI s)) 12 = nI bn := ((f.tr (stt S' r' f)).1 12 (by decide) (by decide) (by decide)).trans n2
            have g51 : mF (pF (pF (rw53 (pF (leanS bn S' i1 u) 7 (nI (tok + 2))) r') 51 (nI w)) 52 (nI s)) 51 = nI w := rfl
            have g52 : mF (pF (pF (rw53 (pF (leanS bn S' i1 u) 7 (nI (tok + 2))) r') 51 (nI w)) 52 (nI s)) 52 = nI s := rfl
            have e8 : (8 : Int32) * (24 * nI bn + nI w) + nI s = nI (8 * (24 * bn + w) + s) := by rw [e24b, nI_add, show (8 : Int32) = nI 8 from rfl, nI_mul, nI_add]
            unfold fM_place
            rw [g12, g51, g52, e8, ck_n (show 8 * (24 * bn + w) + s < 384 by omega) (by decide), nI_clamp (show 8 * (24 * bn + w) + s < 2 ^ 31 by omega), e27' S' r' f]
          have pl62 : ∀ (S9 : Ms) (c' : Nat) (op : Int32), mF S9 51 = nI w → mF S9 52 = nI s → c' < 10000 → bM_place_62 N (nI (10000 * bn + c')) (nI (10000 * bn + c')) op S9 = some (pA (pA (pA S9 39 (10000 * bn + c') op) 40 (10000 * bn + c') (nI w)) 41 (10000 * bn + c') (nI s)) := fun S9 c' op h1 h2 hc => by
            unfold bM_place_62
            have h1' : mF (pA S9 39 (10000 * bn + c') op) 51 = nI w := h1
            have h2' : mF (pA (pA S9 39 (10000 * bn + c') op) 40 (10000 * bn + c') (nI w)) 52 = nI s := h2
            rw [ck_n (show 10000 * bn + c' < 20000 by omega) (by decide), ck_n (show 10000 * bn + c' < 20000 by omega) (by decide), ck_n (show 10000 * bn + c' < 20000 by omega) (by decide), nI_clamp (show 10000 * bn + c' < 2 ^ 31 by omega), h1', h2']
          have nb : ∀ k' c', k' = 39 ∨ k' = 40 ∨ k' = 41 → c' < 10000 → ¬ OB b k' (10000 * bn + c') := fun k' c' hk hc => ob_n hb hbn (w := 10000) (by rcases hk with y | y | y <;> (subst y; rfl)) (by decide) (by omega) (by omega)
          by_cases bad : ts = 1 ∧ k0 = 1
          · right
            refine ⟨6, tok + 2, Or.inr rfl, by show tok ≤ tok + 2; omega, by show tok + 2 ≤ lend (tok, 0, o, 0); omega, fun M' i f hi hw => ?_, fun S' k c' f hr hk' hc' => ?_⟩
            · refine ⟨leanC sm M' i1 u, ?_, leanC_f i1 u, ?_⟩
              · have f1 := f.tr (leanC_f (sm := sm) (M := M') i1 u)
                have l3 : cR (leanC sm M' i1 u) (z + 7) 1 = some sm := by rw [f1.2.2]; exact n3
                have hp1 := hp.fr (CF.fr (K0 := K0) (z := z) (b := b) f1 (SFr.rf b S) hz hk) hz
                show fC_X3_settleOne N K (z + 7) (nI i) (nI (o - 4)) M' = _
                rw [c154 M' i f hi hw]
                unfold bC_X3_settleOne_154
                rw [bad.1, if_neg (by decide), gd_k k7, nn_s l3, gd_k n4, is_ok n4 hp1 n6 q1 hsl hk0 N, bs]
                dsimp only
                rw [bad.2, if_pos (by decide), show (2 : Int32) = nI 2 from rfl, nI_add]
                have e6 : (6 : Int32) + 16 * nI (tok + 2) = nI (6 + 16 * (tok + 2)) := e16 _ 6
                rw [e6]
              · unfold leanC
                split <;> rfl
            · obtain ⟨r', l1⟩ := rplace S' k c' f hr hk'
              have g8 : mF (pF (pF (rw53 (pF (leanS bn S' i1 u) 7 (nI (tok + 2))) r') 51 (nI w)) 52 (nI s)) 8 = 0 := ((f.tr (stt S' r' f)).1 8 (by decide) (by decide) (by decide)).trans m8
              have g5 : mA (pF (pF (rw53 (pF (leanS bn S' i1 u) 7 (nI (tok + 2))) r') 51 (nI w)) 52 (nI s)) 5 (tok + 2) = nI pl := by rw [(f.tr (stt S' r' f)).2.1 5 (by decide) (by decide) (by decide)]; exact pl2
              have wr := wr_ok (N := N) (w := 6) (j := tok + 2) g8 rfl (by omega) g5
              have wr' : fM_wrong N 6 (pF (pF (rw53 (pF (leanS bn S' i1 u) 7 (nI (tok + 2))) r') 51 (nI w)) 52 (nI s)) = some (pF (pF (pF (rw53 (pF (leanS bn S' i1 u) 7 (nI (tok + 2))) r') 51 (nI w)) 52 (nI s)) 8 (nI (6 + 16 * pl))) := wr
              have p40 : bM_place_40 N (nI (10000 * bn + c')) ts k0 (pF (pF (pF (rw53 (pF (leanS bn S' i1 u) 7 (nI (tok + 2))) r') 51 (nI w)) 52 (nI s)) 8 (nI (6 + 16 * pl))) = some (pA (pA (pA (pF (pF (pF (rw53 (pF (leanS bn S' i1 u) 7 (nI (tok + 2))) r') 51 (nI w)) 52 (nI s)) 8 (nI (6 + 16 * pl))) 39 (10000 * bn + c') 5) 40 (10000 * bn + c') (nI w)) 41 (10000 * bn + c') (nI s)) := by
                unfold bM_place_40
                rw [bad.1, if_neg (by decide)]
                exact pl62 _ c' 5 rfl rfl hc'
              refine ⟨pA (pA (pA (pF (pF (pF (rw53 (pF (leanS bn S' i1 u) 7 (nI (tok + 2))) r') 51 (nI w)) 52 (nI s)) 8 (nI (6 + 16 * pl))) 39 (10000 * bn + c') 5) 40 (10000 * bn + c') (nI w)) 41 (10000 * bn + c') (nI s), pl, by rw [l1, pl0 S' r' c' f hc', if_neg (by rw [bad.1]; decide), if_neg (by rw [bad.2]; decide), wr', bs, p40, bs], pl1, pl2, rfl, ?_⟩
              exact ((((stt S' r' f).2.2.2.tr (AgO.pF o8 _)).tr (AgO.pA (nb 39 c' (Or.inl rfl) hc') _)).tr (AgO.pA (nb 40 c' (Or.inr (Or.inl rfl)) hc') _)).tr (AgO.pA (nb 41 c' (Or.inr (Or.inr rfl)) hc') _)
          · left
            have ht' : ts = 0 ∨ ts = 1 ∧ k0 = 0 := by
              rcases hts2 with h0 | h0
              · exact Or.inl h0
              · rcases hk0 with h1 | h1
                · exact Or.inr ⟨h0, h1⟩
                · exact absurd ⟨h0, h1⟩ bad
            refine ⟨(if ts = 1 then 5 else if k0 = 1 then 3 else 4, w, s), u, u1, ?_, ?_, fun M' i f hi hw => ?_, fun S' k c' f hr hk' hc' h39 h41 => ?_⟩
            · have e1 : (if ts = 1 then 5 else if k0 = 1 then 3 else 4 : Nat) = 3 → k0 = 1 := fun q => by
                rcases ht' with h0 | ⟨h0, -⟩
                · rw [h0, if_neg (by decide)] at q
                  rcases hk0 with h1 | h1
                  · rw [h1, if_neg (by decide)] at q; exact absurd q (by decide)
                  · exact h1
                · rw [h0, if_pos rfl] at q; exact absurd q (by decide)
              have e2 : (if ts = 1 then 5 else if k0 = 1 then 3 else 4 : Nat) = 4 ∨ (if ts = 1 then 5 else if k0 = 1 then 3 else 4 : Nat) = 5 → k0 = 0 := fun q => by
                rcases hk0 with h1 | h1
                · exact h1
                · rcases ht' with h0 | ⟨h0, h2⟩
                  · rw [h0, h1, if_neg (by decide), if_pos rfl] at q; omega
                  · exact h2
              have e3 : 3 ≤ (if ts = 1 then 5 else if k0 = 1 then 3 else 4 : Nat) ∧ (if ts = 1 then 5 else if k0 = 1 then 3 else 4 : Nat) ≤ 5 := by
                split
                · omega
                · split <;> omega
              refine ⟨fun q => ?_, fun q => ⟨q1, ?_⟩, fun q => ⟨q1, ?_⟩, fun q => ?_, fun q => ?_, fun q => ?_, fun q => ?_⟩
              · have q' : (if ts = 1 then 5 else if k0 = 1 then 3 else 4 : Nat) = 2 := q
                omega
              · rw [e1 q] at hsl; exact hsl
              · rw [e2 q] at hsl; exact hsl
              · have q' : (if ts = 1 then 5 else if k0 = 1 then 3 else 4 : Nat) = 6 := q
                omega
              · have q' : (if ts = 1 then 5 else if k0 = 1 then 3 else 4 : Nat) = 7 ∨ (if ts = 1 then 5 else if k0 = 1 then 3 else 4 : Nat) = 14 := q
                omega
              · have q' : (if ts = 1 then 5 else if k0 = 1 then 3 else 4 : Nat) = 9 := q
                omega
              · have q' : 25 ≤ (if ts = 1 then 5 else if k0 = 1 then 3 else 4 : Nat) ∧ (if ts = 1 then 5 else if k0 = 1 then 3 else 4 : Nat) ≤ 27 := q
                omega
            · rcases hts2 with h0 | h0
              · have : o = 25 := by
                  have : o ≠ 26 := fun y => by rw [hts.mpr y] at h0; exact absurd h0 (by decide)
                  omega
                refine Or.inl ⟨this, ?_⟩
                show (if ts = 1 then 5 else if k0 = 1 then 3 else 4 : Nat) = 3 ∨ (if ts = 1 then 5 else if k0 = 1 then 3 else 4 : Nat) = 4
                rw [h0, if_neg (by decide)]
                split
                · exact Or.inl rfl
                · exact Or.inr rfl
              · refine Or.inr (Or.inl ⟨hts.mp h0, ?_⟩)
                show (if ts = 1 then 5 else if k0 = 1 then 3 else 4 : Nat) = 5
                rw [h0, if_pos rfl]
            · have f1 := f.tr (leanC_f (sm := sm) (M := M') i1 u)
              have l3 : cR (leanC sm M' i1 u) (z + 7) 1 = some sm := by rw [f1.2.2]; exact n3
              have l5 : cR (leanC sm M' i1 u) sm 9 = some (sm + 10) := by rw [f1.2.2]; exact c5
              have hp1 := hp.fr (CF.fr (K0 := K0) (z := z) (b := b) f1 (SFr.rf b S) hz hk) hz
              have c183 : bC_X3_settleOne_183 N K (z + 7) (nI i) (nI (8 * w + s)) ts (leanC sm M' i1 u) = some (0, wL (leanC sm M' i1 u) (sm + 10) i (cw bn S (if ts = 1 then 5 else if k0 = 1 then 3 else 4, w, s))) := by
                unfold bC_X3_settleOne_183
                rw [gd_k k7, nn_s l3, gd_k n4, nn_s l3, nn_s l5, gd_k n4, pw_ok n4 hp1 n6 q1 hsl hk0 ht' N, bs]
                dsimp only
                rw [gd_k c6, ck_n (show i < le K (sm + 10) by omega) c7, nI_clamp (show i < 2 ^ 31 by omega)]
              show fC_X3_settleOne N K (z + 7) (nI i) (nI (o - 4)) M' = _
              rw [c154 M' i f hi hw]
              unfold bC_X3_settleOne_154
              rcases ht' with h0 | ⟨h0, h1⟩
              · rw [if_pos h0]; exact c183
              · rw [if_neg (by rw [h0]; decide), gd_k k7, nn_s l3, gd_k n4, is_ok n4 hp1 n6 q1 hsl hk0 N, bs]
                dsimp only
                rw [if_neg (by rw [h1]; decide)]
                exact c183
            · obtain ⟨r', l1⟩ := rplace S' k c' f hr hk'
              have st := stt S' r' f
              have p40 : ∀ S9 : Ms, mF S9 51 = nI w → mF S9 52 = nI s → bM_place_40 N (nI (10000 * bn + c')) ts k0 S9 = some (pA (pA (pA S9 39 (10000 * bn + c') (rfd (10000 * bn) (if ts = 1 then 5 else if k0 = 1 then 3 else 4, w, s)).1) 40 (10000 * bn + c') (nI w)) 41 (10000 * bn + c') (nI s)) := fun S9 h1 h2 => by
                unfold bM_place_40
                rcases ht' with h0 | ⟨h0, h3⟩
                · subst h0
                  rcases hk0 with h3 | h3
                  · subst h3
                    rw [if_pos rfl, if_pos rfl]
                    exact pl62 _ c' 4 h1 h2 hc'
                  · subst h3
                    rw [if_pos rfl, if_neg (by decide)]
                    exact pl62 _ c' 3 h1 h2 hc'
                · subst h0
                  subst h3
                  rw [if_neg (by decide)]
                  exact pl62 _ c' 5 h1 h2 hc'
              have e3 : 3 ≤ (if ts = 1 then 5 else if k0 = 1 then 3 else 4 : Nat) ∧ (if ts = 1 then 5 else if k0 = 1 then 3 else 4 : Nat) ≤ 5 := by
                split
                · omega
                · split <;> omega
              generalize (if ts = 1 then 5 else if k0 = 1 then 3 else 4 : Nat) = op at *
              have r2 : (rfd (10000 * bn) (op, w, s)).2.1 = nI w ∧ (rfd (10000 * bn) (op, w, s)).2.2 = nI s := by
                unfold rfd
                rw [if_pos (show (op, w, s).1 = 3 ∨ (op, w, s).1 = 4 ∨ (op, w, s).1 = 5 by show op = 3 ∨ op = 4 ∨ op = 5; omega)]
                exact ⟨rfl, rfl⟩
              have l40 : ∀ k', k' = 39 ∨ k' = 40 ∨ k' = 41 → mA (pF (pF (rw53 (pF (leanS bn S' i1 u) 7 (nI (tok + 2))) r') 51 (nI w)) 52 (nI s)) k' = mA S' k' := fun k' hk => by
                show mA (rw53 (pF (leanS bn S' i1 u) 7 (nI (tok + 2))) r') k' = _
                rw [rw53_A _ _ (by omega)]
                show mA (leanS bn S' i1 u) k' = _
                unfold leanS
                split
                · rfl
                · exact mA_Ane _ _ _ (by omega)
              have l34 : mA (pF (pF (rw53 (pF (leanS bn S' i1 u) 7 (nI (tok + 2))) r') 51 (nI w)) 52 (nI s)) 34 = mA (leanS bn S' i1 u) 34 := by
                show mA (rw53 (pF (leanS bn S' i1 u) 7 (nI (tok + 2))) r') 34 = _
                rw [rw53_A _ _ (by decide)]
                rfl
              have x51 : mF (pF (pF (rw53 (pF (leanS bn S' i1 u) 7 (nI (tok + 2))) r') 51 (nI w)) 52 (nI s)) 51 = nI w := rfl
              have x52 : mF (pF (pF (rw53 (pF (leanS bn S' i1 u) 7 (nI (tok + 2))) r') 51 (nI w)) 52 (nI s)) 52 = nI s := rfl
              have plx := pl0 S' r' c' f hc'
              generalize pF (pF (rw53 (pF (leanS bn S' i1 u) 7 (nI (tok + 2))) r') 51 (nI w)) 52 (nI s) = S9 at *
              have pl : fM_place N (nI (10000 * bn + c')) ts S9 = some (pA (pA (pA S9 39 (10000 * bn + c') (rfd (10000 * bn) (op, w, s)).1) 40 (10000 * bn + c') (nI w)) 41 (10000 * bn + c') (nI s)) := by
                rw [plx, p40 S9 x51 x52]
                rcases ht' with h0 | ⟨h0, h3⟩
                · rw [if_pos h0]
                · rw [if_neg (by rw [h0]; decide), if_pos h3]
              have st2 : SFr b S9 (pA (pA (pA S9 39 (10000 * bn + c') (rfd (10000 * bn) (op, w, s)).1) 40 (10000 * bn + c') (nI w)) 41 (10000 * bn + c') (nI s)) := ⟨fun _ _ _ _ => rfl, fun k' _ a2 _ => by rw [mA_Ane _ _ _ (show k' ≠ 41 by omega), mA_Ane _ _ _ (show k' ≠ 40 by omega), mA_Ane _ _ _ (show k' ≠ 39 by omega)], rfl, ((AgO.pA (nb 39 c' (Or.inl rfl) hc') _).tr (AgO.pA (nb 40 c' (Or.inr (Or.inl rfl)) hc') _)).tr (AgO.pA (nb 41 c' (Or.inr (Or.inr rfl)) hc') _)⟩
              refine ⟨pA (pA (pA S9 39 (10000 * bn + c') (rfd (10000 * bn) (op, w, s)).1) 40 (10000 * bn + c') (nI w)) 41 (10000 * bn + c') (nI s), by rw [l1, pl, bs], st.tr st2, ?_, fun j => ?_, fun j => ?_, fun j => ?_⟩
              · rw [mA_Ane _ _ _ (by decide), mA_Ane _ _ _ (by decide), mA_Ane _ _ _ (by decide)]; exact l34
              · rw [mA_Ane _ _ _ (by decide), mA_Ane _ _ _ (by decide), mA_A, l40 39 (Or.inl rfl)]
                by_cases y : j = 10000 * bn + c'
                · rw [if_pos ⟨rfl, y⟩, if_pos y]
                · rw [if_neg (fun w => y w.2), if_neg y]
              · rw [mA_Ane _ _ _ (by decide), mA_A, mA_Ane _ _ _ (by decide), l40 40 (Or.inr (Or.inl rfl)), r2.1]
                by_cases y : j = 10000 * bn + c'
                · rw [if_pos ⟨rfl, y⟩, if_pos y]
                · rw [if_neg (fun w => y w.2), if_neg y]
              · rw [mA_A, mA_Ane _ _ _ (by decide), mA_Ane _ _ _ (by decide), l40 41 (Or.inr (Or.inr rfl)), r2.2]
                by_cases y : j = 10000 * bn + c'
                · rw [if_pos ⟨rfl, y⟩, if_pos y]
                · rw [if_neg (fun w => y w.2), if_neg y]
        by_cases e26 : o = 26
        · rcases sl with y | y
          · exact fin 1 1 ⟨fun _ => e26, fun _ => rfl⟩ (Or.inr rfl) (Or.inr rfl) y
          · exact fin 1 0 ⟨fun _ => e26, fun _ => rfl⟩ (Or.inr rfl) (Or.inl rfl) y
        · rcases sl with y | y
          · exact fin 0 1 ⟨fun q => absurd q (by decide), fun q => absurd q e26⟩ (Or.inl rfl) (Or.inr rfl) y
          · exact fin 0 0 ⟨fun q => absurd q (by decide), fun q => absurd q e26⟩ (Or.inl rfl) (Or.inl rfl) y
      · -- not found
        right
        refine ⟨2, tok + 2, Or.inl rfl, by show tok ≤ tok + 2; omega, by show tok + 2 ≤ lend (tok, 0, o, 0); omega, fun M' i f hi hw => ?_, fun S' k c' f hr hk' hc' => ?_⟩
        · refine ⟨leanC sm M' i1 u, ?_, leanC_f i1 u, ?_⟩
          · show fC_X3_settleOne N K (z + 7) (nI i) (nI (o - 4)) M' = _
            rw [cls2 M' i f hi hw, q3 _ (f.tr (leanC_f i1 u)), bs]
            dsimp only
            rw [if_neg (by decide)]
          · unfold leanC
            split <;> rfl
        · obtain ⟨r', l1⟩ := q4 _ (sf2 S' f)
          have s9 := (sf2 S' f).tr (sf53 _ r')
          have g8 : mF (rw53 (pF (leanS bn S' i1 u) 7 (nI (tok + 2))) r') 8 = 0 := (s9.1 8 (by decide) (by decide) (by decide)).trans m8
          have g5 : mA (rw53 (pF (leanS bn S' i1 u) 7 (nI (tok + 2))) r') 5 (tok + 2) = nI pl := by rw [s9.2.1 5 (by decide) (by decide) (by decide)]; exact pl2
          have wr := wr_ok (N := N) (w := 2) (j := tok + 2) g8 rfl (by omega) g5
          have wr' : fM_wrong N 2 (rw53 (pF (leanS bn S' i1 u) 7 (nI (tok + 2))) r') = some (pF (rw53 (pF (leanS bn S' i1 u) 7 (nI (tok + 2))) r') 8 (nI (2 + 16 * pl))) := wr
          refine ⟨pF (rw53 (pF (leanS bn S' i1 u) 7 (nI (tok + 2))) r') 8 (nI (2 + 16 * pl)), pl, by rw [ref2 S' k c' f hr hk', l1, bs]; dsimp only; rw [if_pos rfl, wr', bs], pl1, pl2, rfl, ?_⟩
          have fl := leanS_f (S := S') hb hbn (i := i1) (u := u) (by omega) (by omega)
          exact ((fl.2.2.2.tr (AgO.pF o7 _)).tr (a53 _ r')).tr (AgO.pF o8 _)
  · -- the unit is not told
    right
    obtain ⟨pl, pl1, pl2⟩ := plc tok htok
    have le1 : tok ≤ lend (tok, 0, o, 0) := by have := (lend_gt (tok, 0, o, 0)).1; omega
    refine ⟨2, tok, Or.inl rfl, Nat.le_refl _, le1, fun M' i f hi hw => ?_, fun S' k c' f hr hk' hc' => ?_⟩
    · refine ⟨M', ?_, CF.rf _ _, rfl⟩
      show fC_X3_settleOne N K (z + 7) (nI i) (nI (o - 4)) M' = _
      have e2 : (2 : Int32) + 16 * nI tok = nI (2 + 16 * tok) := e16 _ 2
      rw [cls0 M' i f hi hw, uM M' f, bs]
      dsimp only
      rw [if_neg (by decide), e2]
    · have r43 : mA S' 43 k = nI tok := hr.1
      have g8 : mF (pF S' 7 (nI tok)) 8 = 0 := (f.1 8 (by decide) (by decide) (by decide)).trans m8
      have g5 : mA (pF S' 7 (nI tok)) 5 tok = nI pl := by show mA S' 5 tok = _; rw [f.2.1 5 (by decide) (by decide) (by decide)]; exact pl2
      have wr := wr_ok (N := N) (w := 2) (j := tok) g8 rfl (by omega) g5
      have wr' : fM_wrong N 2 (pF S' 7 (nI tok)) = some (pF (pF S' 7 (nI tok)) 8 (nI (2 + 16 * pl))) := wr
      refine ⟨pF (pF S' 7 (nI tok)) 8 (nI (2 + 16 * pl)), pl, by rw [ref0 S' k c' f hr hk', uS S' f, bs]; dsimp only; rw [if_neg (by decide), ck_n hk' (by decide), r43, wr', bs], pl1, pl2, rfl, (AgO.pF o7 _).tr (AgO.pF o8 _)⟩
end LATER
