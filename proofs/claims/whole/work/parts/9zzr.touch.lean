/-! runs: a unit touched -/
def SZ (z h fl t0 sz ts : Nat) (M : Cm) (S : Ms) : Prop := cI M (z + 35) 7 = nI sz ∧ mF S 95 = nI sz ∧ (∀ j, j < sz → cI M (z + 37) j = mA S 94 j) ∧ mF S 97 = nI ts ∧ fl ≤ sz ∧ sz ≤ 34 * (h + 1) ∧ t0 ≤ ts ∧ ts ≤ 10 * (h + 1)
def F4 (S S' : Ms) : Prop := mF S' 95 = mF S 95 ∧ mF S' 97 = mF S 97 ∧ mF S' 98 = mF S 98 ∧ mF S' 99 = mF S 99
/-- what a start ends in, for the frame h below it -/
def CUO (z b st nd nu lim B0 N : Nat) (K : Ka) (M0 : Cm) (S0 : Ms) (t h fl t0 sz ts : Nat) (U : List Nat) (who : Int32) (u : Nat) (M1 M : Cm) (S : Ms) (e : Int32) (S' : Ms) : Prop :=
  F4 S S' ∧
  ((e = 0 ∧ ∃ t' M', RN N K z st t M1 = RN N K z st t' M' ∧ MBX z b st nd nu lim B0 0 M0 S0 t' h fl t0 U who M' S' ∧ cI M' (z + 35) 7 = nI sz ∧ mA S' 54 u = 2 ∧ PR z (h + 1) sz ts M M' S S' ∧ t' + gS nu S' ≤ t + gS nu S ∧ t ≤ t') ∨
  (e = 1 ∧ ∃ t' j M', RN N K z st t M1 = (RSE N K z j (mF S' 90) (mF S' 91) M').bind (RN N K z st t') ∧ MBX z b st nd nu lim B0 0 M0 S0 t' h fl t0 U who M' S' ∧ j + h ≤ 24 ∧ PR z (h + 1) sz ts M M' S S' ∧ t' + gS nu S' ≤ t + gS nu S ∧ t ≤ t' ∧ mF S' 90 ≠ 0) ∨
  (e = 2 ∧ ∃ Mf, RN N K z st t M1 = some Mf ∧ STP z b nd nu B0 0 M0 S0 U Mf S'))
/-- how deep a unit's coming up may go -/
def wt (b nu : Nat) (S0 : Ms) (v : Nat) : Nat := if mA S0 20 (24 * b + v) = 0 then 7 else 7 + kR S0 b nu
/-- all that come up where at most dm are DOWN -/
def CUs (z b st nd nu lim B0 N : Nat) (K : Ka) (M0 : Cm) (S0 : Ms) (dm : Nat) : Prop :=
  ∀ (t h fl t0 sz ts : Nat) (U : List Nat) (who : Int32) (M : Cm) (S : Ms) (u tu k : Nat), MBX z b st nd nu lim B0 0 M0 S0 t h fl t0 U who M S → SZ z h fl t0 sz ts M S → u < nu → mA S 54 u = 0 → cR M0 (st + 6) u = some tu → dn S (fun _ => 1) nu ≤ dm → dn S (wt b nu S0) nu ≤ k → t + gS nu S ≤ 1000000 →
    ∃ e S', gT N k 1 (nI u) 0 0 0 0 S = some (e, S') ∧ CUO z b st nd nu lim B0 N K M0 S0 t h fl t0 sz ts U who u (enC z (h + 1) sz (nI u) (cI M tu 12) (wI M (z + 9) u 1)) M S e S'
theorem gT_0 (N k : Nat) (a : Int32) (S : Ms) : gT N (k + 1) 0 a 0 0 0 0 S = fM_touch N (gT N k) a S := by rw [gT, if_pos rfl]
theorem gT_1 (N k : Nat) (a : Int32) (S : Ms) : gT N (k + 1) 1 a 0 0 0 0 S = fM_comesUp N (gT N k) a S := by rw [gT, if_neg (by decide), if_pos rfl]
theorem gT_2 (N k : Nat) (a a2 : Int32) (S : Ms) : gT N (k + 1) 2 a a2 0 0 0 S = fM_touchRole N (gT N k) a a2 S := by rw [gT, if_neg (by decide), if_neg (by decide), if_pos rfl]
theorem gT_3 (N k : Nat) (a a2 a3 : Int32) (S : Ms) : gT N (k + 1) 3 a a2 a3 0 0 S = fM_works N (gT N k) a a2 a3 S := by rw [gT, if_neg (by decide), if_neg (by decide), if_neg (by decide), if_pos rfl]
theorem gT_4 (N k : Nat) (a a2 a3 a4 a5 : Int32) (S : Ms) : gT N (k + 1) 4 a a2 a3 a4 a5 S = fM_work N (gT N k) a a2 a3 a4 a5 S := by rw [gT, if_neg (by decide), if_neg (by decide), if_neg (by decide), if_neg (by decide), if_pos rfl]
theorem gT_5 (N k : Nat) (a a2 a3 : Int32) (S : Ms) : gT N (k + 1) 5 a a2 a3 0 0 S = fM_uses N (gT N k) a a2 a3 S := by rw [gT, if_neg (by decide), if_neg (by decide), if_neg (by decide), if_neg (by decide), if_neg (by decide), if_pos rfl]
section TOUCH
variable {z b st nd nu lim nh no h fl t0 c B0 N t sz ts dm : Nat} {clo who : Int32} {U : List Nat} {K : Ka} {M0 M M1 M2 : Cm} {S0 S S1 S2 : Ms} {mk : List Mk} {rc cc : Nat} {g : Nat → Nat × Nat × Nat} {pi : Nat → Nat} {J : Nat → Jt} {cl : Nat → List Nat}
theorem CDX.told (X : CDX z b st nd nu K M0 S0 mk rc cc g pi J cl) {u : Nat} (hu : u < nu) : (cR M0 st 5 = some (st + 6) ∧ kd K (st + 6) = 26 ∧ nu ≤ le K (st + 6) ∧ le K (st + 6) ≤ 24) ∧ ∃ tu, cR M0 (st + 6) u = some tu ∧ kd K tu = 8 ∧ st + 11 ≤ tu := by
  obtain ⟨-, -, ⟨p1, p2, fl', p3⟩, -⟩ := X
  obtain ⟨⟨tu, ⟨a1, a2, a3, -⟩, -⟩, -⟩ := p3 u hu
  exact ⟨p1, tu, a1, a3, a2.1⟩
theorem MBX.room (m : MBX z b st nd nu lim B0 clo M0 S0 t h fl t0 U who M S) {u : Nat} (hu : u < nu) (hs : mA S 54 u = 0) : h + 1 ≤ nu ∧ u ∉ U := by
  obtain ⟨nh, no, -, -, -, -, -, ⟨c1, c2, c3, c4⟩, -⟩ := m
  have nm : u ∉ U := fun w => by
    have := (c3 u w).2
    rw [hs] at this
    exact absurd this (by decide)
  refine ⟨?_, nm⟩
  have := nd_len nu (u :: U) (List.nodup_cons.mpr ⟨nm, c2⟩) (fun v hv => by
    rcases List.mem_cons.mp hv with rfl | w
    · exact hu
    · exact (c3 v w).1)
  rw [List.length_cons, c1] at this
  exact this
/-- a unit's state is one of five -/
theorem MBX.st5 (m : MBX z b st nd nu lim B0 clo M0 S0 t h fl t0 U who M S) {u : Nat} (hu : u < 24) : cI M (z + 9) u = mA S 54 u ∧ (mA S 54 u = 0 ∨ mA S 54 u = 1 ∨ mA S 54 u = 2 ∨ mA S 54 u = 3 ∨ mA S 54 u = 4) := by
  obtain ⟨nh, no, -, -, d, -⟩ := m
  obtain ⟨e1, -, -, -, -, -, -, ⟨x, x1, x2⟩, -⟩ := d.2.2.2.2.2.2.1 u hu
  refine ⟨e1, ?_⟩
  rw [x2]
  rcases (show x = 0 ∨ x = 1 ∨ x = 2 ∨ x = 3 ∨ x = 4 by omega) with rfl | rfl | rfl | rfl | rfl
  · exact Or.inl rfl
  · exact Or.inr (Or.inl rfl)
  · exact Or.inr (Or.inr (Or.inl rfl))
  · exact Or.inr (Or.inr (Or.inr (Or.inl rfl)))
  · exact Or.inr (Or.inr (Or.inr (Or.inr rfl)))
/-- what a touch ends in, at the frame's own level -/
def TCO (z b st nd nu lim B0 N : Nat) (K : Ka) (M0 : Cm) (S0 : Ms) (t h fl t0 sz ts : Nat) (U : List Nat) (who : Int32) (x : Nat) (R : Cm → Option Cm) (M M1 : Cm) (S1 : Ms) (e : Int32) (S' : Ms) : Prop :=
  F4 S1 S' ∧
  ((e = 0 ∧ ∃ t' M', RN N K z st t M = (R M').bind (RN N K z st (t' + 1)) ∧ MBX z b st nd nu lim B0 0 M0 S0 t' h fl t0 U who M' S' ∧ cI M' (z + 35) 7 = nI sz ∧ (mA S' 54 x = 1 ∨ mA S' 54 x = 2) ∧ PR z (h + 1) sz ts M1 M' S1 S' ∧ t' + gS nu S' ≤ t + gS nu S1 + 1 ∧ t ≤ t') ∨
  (e = 1 ∧ ∃ t' j M', RN N K z st t M = (RSE N K z j (mF S' 90) (mF S' 91) M').bind (RN N K z st t') ∧ MBX z b st nd nu lim B0 0 M0 S0 t' h fl t0 U who M' S' ∧ (∀ s, s ≠ 2 → cI M' (z + 38 + 2 * h) s = cI M1 (z + 38 + 2 * h) s) ∧ cI M' (z + 38 + 2 * h + 1) = cI M1 (z + 38 + 2 * h + 1) ∧ PR z h sz ts M1 M' S1 S' ∧ j + h ≤ 24 ∧ t' + gS nu S' ≤ t + gS nu S1 + 1 ∧ t < t' ∧ mF S' 90 ≠ 0) ∨
  (e = 2 ∧ ∃ Mf, RN N K z st t M = some Mf ∧ STP z b nd nu B0 0 M0 S0 U Mf S'))
theorem tch0 (X : CDX z b st nd nu K M0 S0 mk rc cc g pi J cl) (hN : 1000000 < N) (hC : CUs z b st nd nu lim B0 N K M0 S0 dm) (m1 : MBX z b st nd nu lim B0 0 M0 S0 t h fl t0 U who M1 S1) (hs : SZ z h fl t0 sz ts M1 S1) {x q k : Nat} (hx : x < nu) (h2 : cI M1 (z + 38 + 2 * h) 2 = nI (q + 1)) (hd : dn S1 (fun _ => 1) nu ≤ dm) (hk : dn S1 (wt b nu S0) nu ≤ k) (hT : t + gS nu S1 + 2 ≤ 1000000) {R : Cm → Option Cm}
    (hr : RN N K z st t M = ((fC_X2_isThere N K (z + 35) (nI x) M1).bind fun p => if p.1 = 0 then some p.2 else R p.2).bind (RN N K z st (t + 1)))
    (hre : ∀ t' M' S', t' < 1000000 → MBX z b st nd nu lim B0 0 M0 S0 t' h fl t0 U who M' S' → cI M' (z + 38 + 2 * h) 2 = nI q → mA S' 54 x = 2 → (∀ v y, NH S1 v y → NH S' v y) → RN N K z st t' M' = (R (wI M' (z + 38 + 2 * h) 2 (nI (q + 1)))).bind (RN N K z st (t' + 1))) :
    ∃ e S', gT N (k + 1) 0 (nI x) 0 0 0 0 S1 = some (e, S') ∧ TCO z b st nd nu lim B0 N K M0 S0 t h fl t0 sz ts U who x R M M1 S1 e S' := by
  have hh := m1.hh X
  have hL := m1.ly X
  have hn24 : nu ≤ 24 := X.1.2.1
  obtain ⟨s1, s2⟩ := m1.st5 (show x < 24 by omega)
  obtain ⟨nh, no, n1, n2, mb⟩ := id m1
  obtain ⟨d, ⟨e11, e12, e13, e14, e15, e16, e17, e18⟩, e2, e3, e4, e5⟩ := id mb
  have n4 : mA S1 54 x ≠ 4 := by
    rcases e5 with ⟨-, -, w⟩ | ⟨w, -⟩
    · exact w x (by omega)
    · exact absurd w (by decide)
  rw [gT_0]
  have there : (mA S1 54 x = 1 ∨ mA S1 54 x = 2) → ∃ e S', fM_touch N (gT N k) (nI x) S1 = some (e, S') ∧ TCO z b st nd nu lim B0 N K M0 S0 t h fl t0 sz ts U who x R M M1 S1 e S' := fun w => by
    refine ⟨0, S1, m_t0 N _ (by omega) w.symm, ⟨rfl, rfl, rfl, rfl⟩, Or.inl ⟨rfl, t, M1, ?_, m1, hs.1, w, PR.rf _ _ _ _ _ _, by omega, Nat.le_refl _⟩⟩
    rw [hr, c_is1 hL N (by omega) (Or.inr ⟨e18, by rw [s1]; exact w.symm⟩), bs]
    dsimp only
    rw [if_neg (by decide)]
  rcases s2 with w | w | w | w | w
  · obtain ⟨⟨p1, p2, p3, p4⟩, tu, u1, u2, u3⟩ := X.told hx
    have hst := X.1.1
    have kst := X.1.2.2.2.2.2.1
    obtain ⟨rm, nm⟩ := m1.room hx w
    have Rr : ∀ a j, z + 89 ≤ a → cR M1 a j = cR M0 a j := fun a j ha => d.1.2.2.2.1 a j (Or.inl (by omega))
    have ci := c_is0 hL N (u := x) (h0 := h) (sz := sz) (q := q) (tu := tu) (st := st) (by omega) e18 (by rw [s1]; exact w) (by omega) e12 e13 hs.1 h2 e11 kst (by omega) (by rw [Rr _ _ (by omega)]; exact p1) p2 (by omega) p4 (by rw [Rr _ _ (by omega)]; exact u1) u2 (by omega)
    rw [m_t1 N _ (by omega) w]
    have qd : PLN z h fl t0 M1 (wI M1 (z + 38 + 2 * h) 2 (nI q)) S1 S1 := (PLN.rf z h fl t0 M1 S1).wf (by decide) (by omega)
    have md := m1.up1.pln qd
    have tuF : tu ≠ z + 38 + 2 * h := by omega
    obtain ⟨e, S', g1, g2, g3⟩ := hC (t + 1) h fl t0 sz ts U who (wI M1 (z + 38 + 2 * h) 2 (nI q)) S1 x tu k md ⟨by rw [cI_wI_ne _ _ _ (by omega)]; exact hs.1, hs.2.1, fun j hj => by rw [cI_wI_ne _ _ _ (by omega)]; exact hs.2.2.1 j hj, hs.2.2.2⟩ hx w u1 hd hk (by omega)
    rw [cI_wI_ne _ _ _ tuF] at g3
    have hr1 : RN N K z st t M = RN N K z st (t + 1) (enC z (h + 1) sz (nI x) (cI M1 tu 12) (wI (wI M1 (z + 38 + 2 * h) 2 (nI q)) (z + 9) x 1)) := by
      rw [hr, ci, bs]
      dsimp only
      rw [if_pos rfl, bs]
    rw [← hr1] at g3
    refine ⟨e, S', g1, g2, ?_⟩
    rcases g3 with ⟨rfl, t', M', a1, a2, a3, a4, a5, a6, a7⟩ | ⟨rfl, t', j, M', a1, a2, a3, a4, a5, a6, a7⟩ | ⟨rfl, Mf, a1, a2⟩
    · have f2 : cI M' (z + 38 + 2 * h) 2 = nI q := by rw [(a5.1 h (by omega)).1, cI_w, if_pos ⟨rfl, rfl⟩]
      have q2 : PLN z h fl t0 M' (wI M' (z + 38 + 2 * h) 2 (nI (q + 1))) S' S' := (PLN.rf z h fl t0 M' S').wf (by decide) (by omega)
      refine Or.inl ⟨rfl, t', wI M' (z + 38 + 2 * h) 2 (nI (q + 1)), ?_, a2.pln q2, by rw [cI_wI_ne _ _ _ (by omega)]; exact a3, Or.inr a4, ?_, by omega, by omega⟩
      · rw [a1, hre t' M' S' (by omega) a2 f2 a4 a5.2.2.2.2.2.2]
      · obtain ⟨b1, b2, b3, b4, b5, b6, b7⟩ := a5
        refine ⟨fun i hi => ⟨?_, ?_⟩, fun j hj => ⟨?_, (b2 j hj).2⟩, b3, b4, b5, b6, b7⟩
        · by_cases ei : i = h
          · subst ei
            funext s
            rw [cI_w]
            by_cases es : s = 2
            · subst es
              rw [if_pos ⟨rfl, rfl⟩]; exact h2.symm
            · rw [if_neg (fun w => es w.2), (b1 i hi).1, cI_w, if_neg (fun w => es w.2)]
          · rw [cI_wI_ne _ _ _ (by omega), (b1 i hi).1, cI_wI_ne _ _ _ (by omega)]
        · rw [cI_wI_ne _ _ _ (by omega), (b1 i hi).2, cI_wI_ne _ _ _ (by omega)]
        · rw [cI_wI_ne _ _ _ (by omega), (b2 j hj).1, cI_wI_ne _ _ _ (by omega)]
    · obtain ⟨b1, b2, b3, b4, b5, b6, b7⟩ := a4
      refine Or.inr (Or.inl ⟨rfl, t', j, M', a1, a2, fun s hs' => ?_, ?_, ⟨fun i hi => ⟨?_, ?_⟩, fun j hj => ⟨?_, (b2 j hj).2⟩, b3, b4, b5, b6, b7⟩, a3, by omega, by omega, a7⟩)
      · rw [(b1 h (by omega)).1, cI_w, if_neg (fun w => hs' w.2)]
      · rw [(b1 h (by omega)).2, cI_wI_ne _ _ _ (by omega)]
      · rw [(b1 i (by omega)).1, cI_wI_ne _ _ _ (by omega)]
      · rw [(b1 i (by omega)).2, cI_wI_ne _ _ _ (by omega)]
      · rw [(b2 j hj).1, cI_wI_ne _ _ _ (by omega)]
    · exact Or.inr (Or.inr ⟨rfl, Mf, a1, a2⟩)
  · exact there (Or.inl w)
  · exact there (Or.inr w)
  · refine ⟨1, _, m_t3 N _ (by omega) w, ⟨rfl, rfl, rfl, rfl⟩, Or.inr (Or.inl ⟨rfl, t + 1, 0, M1, ?_, m1.up1.pln (((PLN.rf z h fl t0 M1 S1).pF (by omega)).pF (by omega)), fun _ _ => rfl, rfl, ?_, by omega, ?_, by omega, by rw [mF_F, if_neg (by decide), mF_F, if_pos rfl]; decide⟩)⟩
    · rw [hr, c_is3 hL N (by omega) e18 (by rw [s1]; exact w)]
      show ((((RSE N K z 0 21 0 M1).bind fun o => some (0, o)).bind fun p => if p.1 = 0 then some p.2 else R p.2).bind (RN N K z st (t + 1))) = (RSE N K z 0 21 0 M1).bind (RN N K z st (t + 1))
      cases RSE N K z 0 21 0 M1 with
      | none => rfl
      | some o => rfl
    · exact (((PLN.rf z h sz ts M1 S1).pF (by omega)).pF (by omega)).pr
    · have := (((PLN.rf z h fl t0 M1 S1).pF (k := 90) (v := 21) (by omega)).pF (k := 91) (v := 0) (by omega)).gs (nu := nu)
      omega
  · exact absurd w n4
end TOUCH
