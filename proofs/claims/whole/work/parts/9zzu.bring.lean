/-! runs: what a start brings up ahead -/
/-- frame h at its start, before its own instructions; Mb, Sb: as it was before it came up -/
def BRS (z b st nd nu lim B0 : Nat) (M0 : Cm) (S0 : Ms) (Mb : Cm) (Sb : Ms) (t h fl t0 : Nat) (U : List Nat) (who : Int32) (q : Nat) (M : Cm) (S : Ms) : Prop :=
  MBX z b st nd nu lim B0 0 M0 S0 t h fl t0 U who M S ∧ (cI M (z + 38 + 2 * h) 2 = nI q ∧ cI M (z + 38 + 2 * h) 3 = 0 ∧ cI M (z + 38 + 2 * h) 5 = 0) ∧ SZ z h fl t0 fl t0 M S ∧ PR z h fl t0 Mb M Sb S ∧ F4 Sb S
def BOUT (z b st nd nu lim B0 N : Nat) (K : Ka) (M0 : Cm) (S0 : Ms) (Mb : Cm) (Sb : Ms) (t h fl t0 : Nat) (U : List Nat) (who : Int32) (q P : Nat) (M : Cm) (e : Int32) (S' : Ms) : Prop :=
  (e = 0 ∧ ∃ t' M', RN N K z st t M = RN N K z st t' M' ∧ BRS z b st nd nu lim B0 M0 S0 Mb Sb t' h fl t0 U who q M' S' ∧ t' + gS nu S' ≤ P ∧ t ≤ t') ∨
  (e = 1 ∧ ∃ t' j M', RN N K z st t M = (RSE N K z j (mF S' 90) (mF S' 91) M').bind (RN N K z st t') ∧ MBX z b st nd nu lim B0 0 M0 S0 t' h fl t0 U who M' S' ∧ cI M' (z + 38 + 2 * h) 5 = 0 ∧ j + h ≤ 24 ∧ PR z h fl t0 Mb M' Sb S' ∧ F4 Sb S' ∧ t' + gS nu S' ≤ P ∧ t ≤ t') ∨
  (e = 2 ∧ F4 Sb S' ∧ ∃ Mf, RN N K z st t M = some Mf ∧ STP z b nd nu B0 0 M0 S0 U Mf S')
/-- a role loop, of a role or of a module -/
def rlp (N : Nat) (GT : Nat → Int32 → Int32 → Int32 → Int32 → Int32 → Ms → Option (Int32 × Ms)) (u vi : Int32) (kk : Int32 → Ms → Option (Int32 × Ms)) : Nat → Int32 → Int32 → Ms → Option (Int32 × Ms)
  | 0, _, _, _ => none
  | n + 1, e, i, S => ck vi 48 (if (mA S 23 (vi : Int32).toNatClampNeg) ≤ i then (kk e S) else (if e = 0 then (ck ((6 * vi) + i) 288 ((GT 2 u (mA S 24 ((6 * vi) + i : Int32).toNatClampNeg) 0 0 0 S).bind fun o => rlp N GT u vi kk n o.1 (i + 1) o.2)) else (kk e S)))
theorem rlp_r (N : Nat) (GT : Nat → Int32 → Int32 → Int32 → Int32 → Int32 → Ms → Option (Int32 × Ms)) (k85 : Int32 → Int32 → Int32 → Ms → Option (Int32 × Ms)) (x1 x2 x3 : Int32) : ∀ (n : Nat) (e i : Int32) (S : Ms), lM_touchRole_44 N GT k85 n x1 x2 x3 e i S = rlp N GT x1 x3 (k85 x2 x3) n e i S := by
  intro n
  induction n with
  | zero => intro e i S; rfl
  | succ n ih =>
    intro e i S
    rw [lM_touchRole_44, rlp]
    simp only [ih]
theorem rlp_m (N : Nat) (GT : Nat → Int32 → Int32 → Int32 → Int32 → Int32 → Ms → Option (Int32 × Ms)) (k123 : Int32 → Int32 → Int32 → Ms → Option (Int32 × Ms)) (x1 x2 : Int32) : ∀ (n : Nat) (e i : Int32) (S : Ms), lM_comesUp_84 N GT k123 n x1 x2 e i S = rlp N GT x1 x2 (k123 x1 x2) n e i S := by
  intro n
  induction n with
  | zero => intro e i S; rfl
  | succ n ih =>
    intro e i S
    rw [lM_comesUp_84, rlp]
    simp only [ih]
def WLK (u : Nat) (W : List Nat) (S : Ms) : Prop := ∀ x, x < 24 → mA S 93 (24 * u + x) = if x ∈ W then 1 else 0
theorem WLK.cg {u : Nat} {W W' : List Nat} {S : Ms} (h : WLK u W S) (e : ∀ x, x ∈ W ↔ x ∈ W') : WLK u W' S := fun x hx => by
  rw [h x hx]
  by_cases q : x ∈ W
  · rw [if_pos q, if_pos ((e x).mp q)]
  · rw [if_neg q, if_neg (fun w => q ((e x).mpr w))]
/-- what is touched of a list, past what was walked -/
def FLt (b : Nat) (S0 : Ms) (W L : List Nat) : List Nat := (L.filter (fun x => !W.contains x)).filter (fun x => decide (mA S0 21 (24 * b + x) ≠ 0))
theorem FLt_app (b : Nat) (S0 : Ms) (W A B : List Nat) : FLt b S0 W (A ++ B.filter (fun x => !A.contains x)) = FLt b S0 W A ++ FLt b S0 (W ++ A) B := by
  unfold FLt
  rw [List.filter_append, List.filter_append]
  congr 2
  rw [List.filter_filter]
  apply List.filter_congr
  intro x _
  by_cases h1 : x ∈ W <;> by_cases h2 : x ∈ A <;> simp [h1, h2]
theorem FLt_nil (b : Nat) (S0 : Ms) {W L : List Nat} (h : ∀ x, x ∈ L → x ∈ W) : FLt b S0 W L = [] := by
  unfold FLt
  have : L.filter (fun x => !W.contains x) = [] := List.filter_eq_nil_iff.mpr (fun x hx => by simp [h x hx])
  rw [this]
  rfl
theorem FLt_ext (b : Nat) (S0 : Ms) {W W' L : List Nat} (h : ∀ x, x ∈ L → (x ∈ W ↔ x ∈ W')) : FLt b S0 W L = FLt b S0 W' L := by
  unfold FLt
  congr 1
  apply List.filter_congr
  intro x hx
  have := h x hx
  by_cases h1 : x ∈ W
  · simp [h1, this.mp h1]
  · have h2 : ¬ x ∈ W' := fun w => h1 (this.mpr w)
    simp [h1, h2]
theorem FLt_two (b : Nat) (S0 : Ms) (W A B : List Nat) : FLt b S0 W (A ++ B) = FLt b S0 W A ++ FLt b S0 W B := by
  unfold FLt
  rw [List.filter_append, List.filter_append]
theorem kR_s (S : Ms) (b n : Nat) : kR S b (n + 1) = kR S b n + (if mA S 20 (24 * b + n) = 0 then 1 else 0) := by
  unfold kR
  rw [List.range_succ, List.filter_append, List.length_append]
  congr 1
  by_cases h : mA S 20 (24 * b + n) = 0
  · rw [if_pos h, List.filter_cons_of_pos (by simp [h])]; rfl
  · rw [if_neg h, List.filter_cons_of_neg (by simp [h])]; rfl
theorem kR_mono (S : Ms) (b : Nat) {m : Nat} : ∀ n, m ≤ n → kR S b m ≤ kR S b n := by
  intro n
  induction n with
  | zero => intro h; rw [show m = 0 by omega]; exact Nat.le_refl _
  | succ n ih =>
    intro h
    by_cases e : m = n + 1
    · rw [e]; exact Nat.le_refl _
    · have := ih (by omega)
      rw [kR_s]; omega
theorem kR_lt (S : Ms) (b : Nat) {m n : Nat} (h : m < n) (h0 : mA S 20 (24 * b + m) = 0) : kR S b m + 1 ≤ kR S b n := by
  have := kR_mono S b n (show m + 1 ≤ n from h)
  rw [kR_s, if_pos h0] at this
  exact this
/-- the rows in which the walked roles of u stand may change -/
def R93 (u : Nat) (S S' : Ms) : Prop := (∀ k, mF S' k = mF S k) ∧ (∀ k, k ≠ 93 → mA S' k = mA S k) ∧ mL S' = mL S ∧ ∀ v x, v ≠ u → x < 24 → mA S' 93 (24 * v + x) = mA S 93 (24 * v + x)
section BRING
variable {z b st nd nu lim nh no h fl t0 c B0 N t sz ts dm : Nat} {clo who : Int32} {U : List Nat} {K : Ka} {M0 M M1 M2 Mb Mf : Cm} {S0 S S1 S2 Sb S' : Ms} {mk : List Mk} {rc cc : Nat} {g : Nat → Nat × Nat × Nat} {pi : Nat → Nat} {J : Nat → Jt} {cl : Nat → List Nat}
theorem R93.mch {u : Nat} (r : R93 u S S') : MCH z M M S S' := ⟨fun _ _ _ => rfl, rfl, rfl, fun _ _ _ => rfl, fun k _ => r.1 k, fun k h _ _ => r.2.1 k h, r.2.2.1⟩
theorem R93.gs {u : Nat} (r : R93 u S S') : gS nu S' ≤ gS nu S := gS_ag (r.1 68) (r.1 67) (fun v hv => by rw [← r.2.1 54 (by decide)]; exact hv)
theorem MBX.r93 {u : Nat} (r : R93 u S S') (m : MBX z b st nd nu lim B0 clo M0 S0 t h fl t0 U who M S) : MBX z b st nd nu lim B0 clo M0 S0 t h fl t0 U who M S' := by
  obtain ⟨nh, no, n1, n2, m1, m2, ⟨us, b1, b2, b3, b4, b5, b6⟩, ⟨c1, c2, c3, c4⟩, m5, m6⟩ := m
  have A54 := r.2.1 54 (by decide)
  refine ⟨nh, no, n1, n2, m1.mach r.mch, m2, ⟨us, b1, b2, by rw [r.1]; exact b3, by rw [r.1]; exact b4, b5, b6⟩, ⟨c1, c2, fun u hu => by rw [A54]; exact c3 u hu, c4⟩, m5, ?_⟩
  unfold MBc at m6 ⊢
  rw [r.1, A54]; exact m6
theorem PR.r93 {u : Nat} (r : R93 u S S') (hu : mA Sb 54 u = 0) (p : PR z h fl t0 Mb M Sb S) : PR z h fl t0 Mb M Sb S' := by
  obtain ⟨b1, b2, b3, b4, b5, b6, b7⟩ := p
  have A54 := r.2.1 54 (by decide)
  refine ⟨b1, fun j hj => ⟨(b2 j hj).1, by rw [r.2.1 94 (by decide)]; exact (b2 j hj).2⟩, fun j hj => by rw [r.2.1 96 (by decide)]; exact b3 j hj, fun v hv => by rw [A54]; exact b4 v hv, fun v hv => b5 v (by rw [← A54]; exact hv), fun v x hv hx => ?_, fun v x hv => ?_⟩
  · have ne : v ≠ u := fun w => hv (by rw [w]; exact hu)
    rw [r.2.2.2 v x ne hx]; exact b6 v x hv hx
  · have := b7 v x hv
    unfold NH at this ⊢
    rw [r.2.1 59 (by decide), r.2.1 60 (by decide)]; exact this
theorem F4.r93 {u : Nat} (r : R93 u S S') (f : F4 Sb S) : F4 Sb S' := ⟨(r.1 _).trans f.1, (r.1 _).trans f.2.1, (r.1 _).trans f.2.2.1, (r.1 _).trans f.2.2.2⟩
theorem SZ.r93 {u : Nat} (r : R93 u S S') (s : SZ z h fl t0 sz ts M S) : SZ z h fl t0 sz ts M S' := by
  obtain ⟨s1, s2, s3, s4, s5⟩ := s
  exact ⟨s1, by rw [r.1]; exact s2, fun j hj => by rw [r.2.1 94 (by decide)]; exact s3 j hj, by rw [r.1]; exact s4, s5⟩
theorem BRS.r93 {u q : Nat} (r : R93 u S S') (hu : mA Sb 54 u = 0) (s : BRS z b st nd nu lim B0 M0 S0 Mb Sb t h fl t0 U who q M S) : BRS z b st nd nu lim B0 M0 S0 Mb Sb t h fl t0 U who q M S' :=
  ⟨s.1.r93 r, s.2.1, s.2.2.1.r93 r, s.2.2.2.1.r93 r hu, s.2.2.2.2.r93 r⟩
theorem STP.r93 {u : Nat} (r : R93 u S S') (s : STP z b nd nu B0 clo M0 S0 U Mf S) : STP z b nd nu B0 clo M0 S0 U Mf S' := by
  obtain ⟨nh, no, M2, n1, n2, d, ⟨u1, u2⟩, h1, h2, ⟨h3, h4, h5, h6, h7⟩, h8⟩ := s
  refine ⟨nh, no, M2, n1, n2, d.mach r.mch, ⟨u1, fun u hu => ⟨(u2 u hu).1, by rw [r.2.1 54 (by decide)]; exact (u2 u hu).2⟩⟩, h1, h2, ⟨h3, h4, h5, h6, by rw [r.1]; exact h7⟩, by unfold C4; rw [r.2.1 54 (by decide)]; exact h8⟩
theorem F4.tr (f : F4 S S1) (r : F4 S1 S2) : F4 S S2 := ⟨r.1.trans f.1, r.2.1.trans f.2.1, r.2.2.1.trans f.2.2.1, r.2.2.2.trans f.2.2.2⟩
theorem BOUT.pre {t1 q P P' : Nat} {e : Int32} (hr : RN N K z st t M = RN N K z st t1 M1) (ht : t ≤ t1) (hP : P ≤ P') (h1 : BOUT z b st nd nu lim B0 N K M0 S0 Mb Sb t1 h fl t0 U who q P M1 e S') : BOUT z b st nd nu lim B0 N K M0 S0 Mb Sb t h fl t0 U who q P' M e S' := by
  rcases h1 with ⟨rfl, t', M', a1, a2, a3, a4⟩ | ⟨rfl, t', j, M', a1, a2, a3, a4, a5, a6, a7, a8⟩ | ⟨rfl, a0, Mf, a1, a2⟩
  · exact Or.inl ⟨rfl, t', M', hr.trans a1, a2, by omega, by omega⟩
  · exact Or.inr (Or.inl ⟨rfl, t', j, M', hr.trans a1, a2, a3, a4, a5, a6, by omega, by omega⟩)
  · exact Or.inr (Or.inr ⟨rfl, a0, Mf, hr.trans a1, a2⟩)
theorem BOUT.r93 {u q P : Nat} {e : Int32} (r : R93 u S S') (hu : mA Sb 54 u = 0) (h1 : BOUT z b st nd nu lim B0 N K M0 S0 Mb Sb t h fl t0 U who q P M e S) : BOUT z b st nd nu lim B0 N K M0 S0 Mb Sb t h fl t0 U who q P M e S' := by
  have hg := r.gs (nu := nu)
  rcases h1 with ⟨rfl, t', M', a1, a2, a3, a4⟩ | ⟨rfl, t', j, M', a1, a2, a3, a4, a5, a6, a7, a8⟩ | ⟨rfl, a0, Mf, a1, a2⟩
  · exact Or.inl ⟨rfl, t', M', a1, a2.r93 r hu, by omega, a4⟩
  · exact Or.inr (Or.inl ⟨rfl, t', j, M', by rw [r.1, r.1]; exact a1, a2.r93 r, a3, a4, a5.r93 r hu, a6.r93 r, by omega, a8⟩)
  · exact Or.inr (Or.inr ⟨rfl, a0.r93 r, Mf, a1, a2.r93 r⟩)
/-- one unit brought -/
theorem brg (X : CDX z b st nd nu K M0 S0 mk rc cc g pi J cl) (hN : 1000000 < N) (hC : CUs z b st nd nu lim B0 N K M0 S0 dm) {q x k : Nat} (s : BRS z b st nd nu lim B0 M0 S0 Mb Sb t h fl t0 U who q M S) (hx : x < nu) (hw : cL M0 (st + 10) q = wd (nI 7) (nI x) 0) (hq : q < cc) (hd : dn S (fun _ => 1) nu ≤ dm) (hk : dn S (wt b nu S0) nu ≤ k) (hT : t + gS nu S + 2 ≤ 1000000) :
    ∃ e S', gT N (k + 1) 0 (nI x) 0 0 0 0 S = some (e, S') ∧ BOUT z b st nd nu lim B0 N K M0 S0 Mb Sb t h fl t0 U who (q + 1) (t + gS nu S + 2) M e S' ∧ ∀ v y, mA S 54 v ≠ 0 → y < 24 → (e = 0 → mA S' 93 (24 * v + y) = mA S 93 (24 * v + y)) := by
  obtain ⟨m, ⟨f2, f3, f5⟩, sz', pb, f4⟩ := s
  have hh := m.hh X
  have hn24 : nu ≤ 24 := X.1.2.1
  have k35 : kd K (z + 35) = 3 := (m.ly X).k 35 3 0 rfl
  obtain ⟨r1, r2, r3⟩ := rn_at X hN m f2 hq (by omega) hw (by decide) (by omega)
  have ma := m.pln r2
  have pf : ∀ M, fC_X2_perform N K (z + 35) (nI 7) (nI x) 0 M = (fC_X2_isThere N K (z + 35) (nI x) M).bind fun p => if p.1 = 0 then some p.2 else (some : Cm → Option Cm) p.2 := fun M => by
    rw [pf7 k35]
    congr 1
    funext p
    split <;> rfl
  obtain ⟨s1, s2, s3, s4, s5, s6, s7, s8⟩ := sz'
  obtain ⟨e, S', a1, a2, a3⟩ := tch0 X hN hC ma (sz := fl) (ts := t0) ⟨by rw [cI_wI_ne _ _ _ (by omega)]; exact s1, s2, fun j hj => by rw [cI_wI_ne _ _ _ (by omega)]; exact s3 j hj, s4, s5, s6, s7, s8⟩ hx (q := q) (k := k) (by rw [cI_w, if_pos ⟨rfl, rfl⟩]) hd hk hT (R := some) (by rw [r1, pf]) (fun t' M' S' ht' m' g2 st2 _ => by
    obtain ⟨y1, y2, y3⟩ := rn_at X hN m' g2 hq ht' hw (by decide) (by omega)
    have m2 := m'.pln y2
    obtain ⟨q1, -⟩ := m2.st5 (show x < 24 by omega)
    have h9 : cI (wI M' (z + 38 + 2 * h) 2 (nI (q + 1))) (z + 35) 9 = 0 := by obtain ⟨nh', no', -, -, -, w, -⟩ := m2; exact w.2.2.2.2.2.2.2
    rw [y1, pf, c_is1 y3 N (by omega) (Or.inr ⟨h9, Or.inl (by rw [q1]; exact st2)⟩), bs]
    dsimp only
    rw [if_neg (by decide)])
  obtain ⟨u1, u2, u3, u4⟩ := id a2
  refine ⟨e, S', a1, ?_, fun v y hv hy he => ?_⟩
  · rcases a3 with ⟨rfl, t', M', q1, q2, q3, q4, q5, q6, q7⟩ | ⟨rfl, t', j, M', q1, q2, q3, q4, q5, q6, q7, q8, -⟩ | ⟨rfl, Mf, q1, q2⟩
    · have fr := (q5.1 h (by omega)).1
      refine Or.inl ⟨rfl, t' + 1, M', by rw [q1, bs], ⟨q2.up1, ⟨?_, ?_, ?_⟩, ⟨q3, by rw [u1]; exact s2, fun j hj => ?_, by rw [u2]; exact s4, s5, s6, s7, s8⟩, pb.tr (r2.pr.tr (q5.mono (by omega) (Nat.le_refl _) (Nat.le_refl _))), f4.tr a2⟩, by omega, by omega⟩
      · rw [fr, cI_w, if_pos ⟨rfl, rfl⟩]
      · rw [fr, cI_w, if_neg (by omega)]; exact f3
      · rw [fr, cI_w, if_neg (by omega)]; exact f5
      · rw [(q5.2.1 j hj).1, (q5.2.1 j hj).2, cI_wI_ne _ _ _ (by omega)]; exact s3 j hj
    · refine Or.inr (Or.inl ⟨rfl, t', j, M', q1, q2, ?_, q6, pb.tr (r2.pr.tr q5), f4.tr a2, by omega, by omega⟩)
      rw [q3 5 (by decide), cI_w, if_neg (by omega)]; exact f5
    · exact Or.inr (Or.inr ⟨rfl, f4.tr a2, Mf, q1, q2⟩)
  · rcases a3 with ⟨-, t', M', q1, q2, q3, q4, q5, -⟩ | ⟨w, -⟩ | ⟨w, -⟩
    · exact q5.2.2.2.2.2.1 v y hv hy
    · rw [w] at he; exact absurd he (by decide)
    · rw [w] at he; exact absurd he (by decide)
/-- the roles of a unit, as both have them -/
theorem CDX.cls (X : CDX z b st nd nu K M0 S0 mk rc cc g pi J cl) {u : Nat} (hu : u < nu) : ∃ nr, nr ≤ 6 ∧ mA S0 23 (24 * b + u) = nI nr ∧ (∀ k, k < nr → ∃ r, r < u ∧ mA S0 24 (6 * (24 * b + u) + k) = nI r ∧ mA S0 20 (24 * b + r) = 0) ∧ cl u = clr S0 b cl u nr ++ (if mA S0 20 (24 * b + u) = 0 then [u] else []) ∧ ∀ x, x ∈ cl u → x ≤ u ∧ mA S0 20 (24 * b + x) = 0 := by
  have hn24 : nu ≤ 24 := X.1.2.1
  obtain ⟨-, -, ⟨p1, p2, fl', p3⟩, un, -⟩ := X
  obtain ⟨⟨tu, ⟨-, -, -, -, -, -, -, -, -, -, -, nr, n1, n2, n3⟩, -⟩, -⟩ := p3 u hu
  obtain ⟨tu', cu, -, -, -, -, -, -, -, h8, h9, h10, -⟩ := un u hu
  refine ⟨nr, n1, n2, fun k hk => ?_, ?_, h9⟩
  · obtain ⟨r, w1, w2, -⟩ := n3 k hk
    have q := h10.2 k (by rw [n2, nI_clamp (by omega)]; exact hk)
    rw [w2, nI_clamp (by omega)] at q
    exact ⟨r, w1, w2, q⟩
  · rw [h8]
    unfold clq
    rw [n2, nI_clamp (by omega)]
def rlx (S0 : Ms) (b u k : Nat) : Nat := (mA S0 24 (6 * (24 * b + u) + k)).toNatClampNeg
theorem clr_mem (S0 : Ms) (b : Nat) (cl : Nat → List Nat) (u x : Nat) : ∀ k, x ∈ clr S0 b cl u k ↔ ∃ i, i < k ∧ x ∈ cl (rlx S0 b u i) := by
  intro k
  induction k with
  | zero => exact ⟨fun w => absurd w (List.not_mem_nil), fun ⟨i, w, _⟩ => by omega⟩
  | succ k ih =>
    rw [clr, List.mem_append, List.mem_filter, ih]
    constructor
    · rintro (⟨i, w1, w2⟩ | ⟨w1, w2⟩)
      · exact ⟨i, by omega, w2⟩
      · exact ⟨k, by omega, w1⟩
    · rintro ⟨i, w1, w2⟩
      by_cases e : i = k
      · subst e
        by_cases q : x ∈ clr S0 b cl u i
        · exact Or.inl (ih.mp q)
        · exact Or.inr ⟨w2, by simp [q]⟩
      · exact Or.inl ⟨i, by omega, w2⟩
theorem cl_tr (X : CDX z b st nd nu K M0 S0 mk rc cc g pi J cl) : ∀ (n r : Nat), r < n → r < nu → ∀ x, x ∈ cl r → ∀ y, y ∈ cl x → y ∈ cl r := by
  have hn24 : nu ≤ 24 := X.1.2.1
  intro n
  induction n with
  | zero => intro r hr; omega
  | succ n ih =>
    intro r hr hn x hx y hy
    obtain ⟨nr, n1, n2, n3, n4, n5⟩ := X.cls hn
    rw [n4] at hx
    rcases List.mem_append.mp hx with w | w
    · obtain ⟨i, w1, w2⟩ := (clr_mem S0 b cl r x nr).mp w
      obtain ⟨r', v1, v2, v3⟩ := n3 i w1
      have e : rlx S0 b r i = r' := by unfold rlx; rw [v2, nI_clamp (by omega)]
      rw [e] at w2
      have := ih r' (by omega) (by omega) x w2 y hy
      rw [n4]
      exact List.mem_append_left _ ((clr_mem S0 b cl r y nr).mpr ⟨i, w1, by rw [e]; exact this⟩)
    · by_cases q : mA S0 20 (24 * b + r) = 0
      · rw [if_pos q, List.mem_singleton] at w
        rw [← w]; rw [w]; rw [w] at hy; exact hy
      · rw [if_neg q] at w; exact absurd w (List.not_mem_nil)
theorem clr_px (S0 : Ms) (b : Nat) (cl : Nat → List Nat) (u : Nat) (W : List Nat) (i : Nat) : ∀ d, ∃ C, FLt b S0 W (clr S0 b cl u (i + d)) = FLt b S0 W (clr S0 b cl u i) ++ C := by
  intro d
  induction d with
  | zero => exact ⟨[], (List.append_nil _).symm⟩
  | succ d ih =>
    obtain ⟨C, hC⟩ := ih
    refine ⟨C ++ FLt b S0 (W ++ clr S0 b cl u (i + d)) (cl (rlx S0 b u (i + d))), ?_⟩
    rw [show i + (d + 1) = (i + d) + 1 from rfl, clr, FLt_app, hC, List.append_assoc]
    rfl
theorem gD_r (A B : List Nat) (i : Nat) : (A ++ B).getD (A.length + i) 0 = B.getD i 0 := by
  rw [List.getD_eq_getElem?_getD, List.getD_eq_getElem?_getD, List.getElem?_append_right (by omega), Nat.add_sub_cancel_left]
theorem gD_l (A B : List Nat) {i : Nat} (h : i < A.length) : (A ++ B).getD i 0 = A.getD i 0 := by
  rw [List.getD_eq_getElem?_getD, List.getD_eq_getElem?_getD, List.getElem?_append_left h]
end BRING
