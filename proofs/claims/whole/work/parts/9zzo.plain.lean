/-! runs: instructions that touch nothing -/
theorem rf3 {cf : Nat} {x : Nat × Nat × Nat} (h : x.1 = 3 ∨ x.1 = 4 ∨ x.1 = 5) : rfd cf x = (nI x.1, nI x.2.1, nI x.2.2) := by unfold rfd; rw [if_pos h]
theorem rf2 {cf : Nat} {x : Nat × Nat × Nat} (h : x.1 = 2 ∨ x.1 = 6 ∨ x.1 = 7 ∨ x.1 = 9 ∨ x.1 = 14) : rfd cf x = (nI x.1, nI x.2.1, 0) := by unfold rfd; rw [if_neg (by omega), if_pos h]
theorem rf10 {cf : Nat} {x : Nat × Nat × Nat} (h : 10 ≤ x.1 ∧ x.1 ≤ 13) : rfd cf x = (nI x.1, nI (cf + x.2.1), 0) := by unfold rfd; rw [if_neg (by omega), if_neg (by omega), if_pos h]
theorem rf0 {cf : Nat} {x : Nat × Nat × Nat} (h : x.1 ≤ 1 ∨ x.1 = 8 ∨ (15 ≤ x.1 ∧ x.1 ≤ 24)) : rfd cf x = (nI x.1, 0, 0) := by
  unfold rfd
  rw [if_neg (by omega), if_neg (by omega), if_neg (by omega), if_neg (by omega), if_neg (by omega), if_neg (by omega), if_neg (by omega), if_neg (by omega), if_neg (by omega), if_neg (by omega)]
theorem w1_nx {g : Nat → Nat × Nat × Nat} {J : Nat → Jt} {rc c o : Nat} (W : W1 g J rc c) (ho : (g c).1 = o) (hf : ft o) (h1 : o ≠ 1) (h12 : o ≠ 12 ∧ o ≠ 30) {a p : Nat} (ha : pp o = a) (hp : ps o = p) : (J c).1 ≤ 34 ∧ (J (c + 1)).1 + a = (J c).1 + p ∧ (J (c + 1)).2.1 = (J c).2.1 ∧ (J c).2.2 < (J (c + 1)).2.2 ∧ (J c).2.2 < 90 ∧ a ≤ (J c).1 := by
  obtain ⟨a1, -, a3, -, -, -, a7, -⟩ := W
  rw [ho] at a1 a3 a7
  obtain ⟨b1, b2, b3⟩ := a3 hf
  rw [if_neg (by omega)] at b2
  rw [ha] at b1 a1
  rw [hp] at b1
  have : 2 ≤ o := by unfold ft at hf; omega
  exact ⟨a1.1, b1, b2, b3 h1, (a7 this).1, a1.2.2⟩
theorem bin_w {z N : Nat} {K : Ka} (hk : kd K (z + 35) = 3) {o w : Nat} (h : (o, w) ∈ ([(18, 42), (19, 47), (20, 37), (21, 43), (22, 45), (23, 60), (24, 61)] : List (Nat × Nat))) (x y : Int32) :
    ((o = 19 ∨ o = 20) ∧ y = 0 ∧ ∀ M, fC_X2_reckon N K (z + 35) (nI w) x y M = RSE N K z 0 13 0 M) ∨ (¬ ((o = 19 ∨ o = 20) ∧ y = 0) ∧ ∃ v, (∀ M, fC_X2_reckon N K (z + 35) (nI w) x y M = fC_X2_push N K (z + 35) v M) ∧ ∀ S, bM_reckons_106 N (nI o) y x S = (fM_push N v S).bind fun o => some (0, o)) := by
  have P : ∀ v M, ((fC_X2_push N K (z + 35) v M).bind fun o => bC_X2_reckon_148 N K (z + 35) o) = fC_X2_push N K (z + 35) v M := fun v M => bn_some _
  have Q : ∀ v S, bM_reckons_203 N v S = (fM_push N v S).bind fun o => some (0, o) := fun v S => rfl
  have ne : y ≠ 0 → (y != 0) = true := fun h => bne_iff_ne.mpr h
  simp only [List.mem_cons, List.not_mem_nil, or_false, Prod.mk.injEq] at h
  rcases h with ⟨rfl, rfl⟩ | ⟨rfl, rfl⟩ | ⟨rfl, rfl⟩ | ⟨rfl, rfl⟩ | ⟨rfl, rfl⟩ | ⟨rfl, rfl⟩ | ⟨rfl, rfl⟩
  · refine Or.inr ⟨by omega, x * y, fun M => ?_, fun S => ?_⟩
    · unfold fC_X2_reckon
      rw [if_pos (by decide), gd_k hk, P]
    · unfold bM_reckons_106
      rw [if_pos (by decide), Q]
  · by_cases hy : y = 0
    · refine Or.inl ⟨Or.inl rfl, hy, fun M => ?_⟩
      unfold fC_X2_reckon
      rw [if_neg (by decide), if_neg (by decide), if_neg (by decide), if_neg (by decide), if_neg (by decide), if_pos hy, gd_k hk, c_raise]
      exact bn_some _
    · refine Or.inr ⟨fun q => hy q.2, x / y, fun M => ?_, fun S => ?_⟩
      · unfold fC_X2_reckon bC_X2_reckon_145
        rw [if_neg (by decide), if_neg (by decide), if_neg (by decide), if_neg (by decide), if_neg (by decide), if_neg hy, if_pos (by decide), gd_t (ne hy), gd_k hk, P]
      · unfold bM_reckons_106
        rw [if_neg (by decide), if_pos (by decide), gd_t (ne hy), Q]
  · by_cases hy : y = 0
    · refine Or.inl ⟨Or.inr rfl, hy, fun M => ?_⟩
      unfold fC_X2_reckon
      rw [if_neg (by decide), if_neg (by decide), if_neg (by decide), if_neg (by decide), if_neg (by decide), if_pos hy, gd_k hk, c_raise]
      exact bn_some _
    · refine Or.inr ⟨fun q => hy q.2, x - x / y * y, fun M => ?_, fun S => ?_⟩
      · unfold fC_X2_reckon bC_X2_reckon_145
        rw [if_neg (by decide), if_neg (by decide), if_neg (by decide), if_neg (by decide), if_neg (by decide), if_neg hy, if_neg (by decide), gd_t (ne hy), gd_k hk, P]
      · unfold bM_reckons_106
        rw [if_neg (by decide), if_neg (by decide), if_pos (by decide), gd_t (ne hy), Q]
  · refine Or.inr ⟨by omega, x + y, fun M => ?_, fun S => ?_⟩
    · unfold fC_X2_reckon
      rw [if_neg (by decide), if_pos (by decide), gd_k hk, P]
    · unfold bM_reckons_106
      rw [if_neg (by decide), if_neg (by decide), if_neg (by decide), if_pos (by decide), Q]
  · refine Or.inr ⟨by omega, x - y, fun M => ?_, fun S => ?_⟩
    · unfold fC_X2_reckon
      rw [if_neg (by decide), if_neg (by decide), if_pos (by decide), gd_k hk, P]
    · unfold bM_reckons_106
      rw [if_neg (by decide), if_neg (by decide), if_neg (by decide), if_neg (by decide), if_pos (by decide), Q]
  · refine Or.inr ⟨by omega, if y ≤ x then 0 else 1, fun M => ?_, fun S => ?_⟩
    · unfold fC_X2_reckon bC_X2_reckon_93
      rw [if_neg (by decide), if_neg (by decide), if_neg (by decide), if_pos (by decide), gd_k hk, gd_k hk, P, P]
      split <;> rfl
    · unfold bM_reckons_106
      rw [if_neg (by decide), if_neg (by decide), if_neg (by decide), if_neg (by decide), if_neg (by decide), if_pos (by decide), Q, Q]
      split <;> rfl
  · refine Or.inr ⟨by omega, if x = y then 1 else 0, fun M => ?_, fun S => ?_⟩
    · unfold fC_X2_reckon bC_X2_reckon_110
      rw [if_neg (by decide), if_neg (by decide), if_neg (by decide), if_neg (by decide), if_pos (by decide), gd_k hk, gd_k hk, P, P]
      split <;> rfl
    · unfold bM_reckons_106
      rw [if_neg (by decide), if_neg (by decide), if_neg (by decide), if_neg (by decide), if_neg (by decide), if_neg (by decide), Q, Q]
      split <;> rfl
def RPB (z nu : Nat) (M0 : Cm) (S0 : Ms) : Prop := cI M0 (z + 8) 11 = mF S0 63 ∧ RP z M0 S0 nu
section PLAIN
variable {z b st nd nu lim nh no h fl t0 c B0 N t : Nat} {clo who : Int32} {U : List Nat} {K : Ka} {M0 M M1 M2 : Cm} {S0 S S1 S2 : Ms} {mk : List Mk} {rc cc : Nat} {g : Nat → Nat × Nat × Nat} {pi : Nat → Nat} {J : Nat → Jt} {cl : Nat → List Nat}
theorem CTL.dch {q p : Nat} {L : List Nat} (f : CTL z b h t0 g pi q p L M S) (d : DCH z M M1 S S1) (hh : h < 25) : CTL z b h t0 g pi q p L M1 S1 := by
  obtain ⟨f1, f2, f3, f4, f5, f6⟩ := f
  obtain ⟨q1, q2, q3, q4, q5⟩ := d
  exact ⟨by rw [q1 _ (by omega)]; exact f1, by rw [q3 99 (by omega)]; exact f2, by rw [q1 _ (by omega), q3 98 (by omega)]; exact f3, by rw [q1 _ (by omega)]; exact f4, by rw [q3 97 (by omega)]; exact f5, f6.ag (fun _ _ => by rw [q1 _ (by omega)]) (fun _ _ => by rw [q4 96 (by omega)])⟩
theorem STK.dch {n : Nat} (f : STK z fl n M S) (d : DCH z M M1 S S1) : STK z fl n M1 S1 := by
  obtain ⟨f1, f2, f3⟩ := f
  obtain ⟨q1, q2, q3, q4, q5⟩ := d
  exact ⟨by rw [q1 _ (by omega)]; exact f1, by rw [q3 95 (by omega)]; exact f2, fun j hj => by rw [q1 _ (by omega), q4 94 (by omega)]; exact f3 j hj⟩
theorem tk_at (X : CDX z b st nd nu K M0 S0 mk rc cc g pi J cl) (hN : 1000000 < N) (m : MBX z b st nd nu lim B0 clo M0 S0 t h fl t0 U who M S) (f : FMp z b rc g pi J h fl t0 c M S) (ht : t < 1000000) {w fo : Nat} {s : Int32} (hw : cwd b S0 pi (g c) = wd (nI w) (nI fo) s) (hw2 : w < 256) (hf : fo < 16777216) :
    RN N K z st t M = (fC_X2_perform N K (z + 35) (nI w) (nI fo) s (wI M (z + 38 + 2 * h) 2 (nI (pi c + 1)))).bind (RN N K z st (t + 1)) ∧ PLN z h fl t0 M (wI M (z + 38 + 2 * h) 2 (nI (pi c + 1))) S (pF S 99 (nI (10000 * b + (c + 1)))) ∧ LY z K (wI M (z + 38 + 2 * h) 2 (nI (pi c + 1))) ∧
    CTL z b h t0 g pi (pi c + 1) (c + 1) (J c).2.1 (wI M (z + 38 + 2 * h) 2 (nI (pi c + 1))) (pF S 99 (nI (10000 * b + (c + 1)))) ∧ STK z fl (J c).1 (wI M (z + 38 + 2 * h) 2 (nI (pi c + 1))) (pF S 99 (nI (10000 * b + (c + 1)))) ∧ MBX z b st nd nu lim B0 clo M0 S0 t h fl t0 U who (wI M (z + 38 + 2 * h) 2 (nI (pi c + 1))) (pF S 99 (nI (10000 * b + (c + 1)))) := by
  have hh := m.hh X
  obtain ⟨p1, p2, -⟩ := X.pl f.1
  have tp := tw_pos (g c)
  obtain ⟨r1, r2, r3⟩ := rn_at X hN m f.2.1 (show pi c < cc by omega) ht (p2.trans hw) hw2 hf
  have q : PLN z h fl t0 M (wI M (z + 38 + 2 * h) 2 (nI (pi c + 1))) S (pF S 99 (nI (10000 * b + (c + 1)))) := r2.pF (by omega)
  exact ⟨r1, q, r3, f.ctl.nx rfl, (f.stk.wf (by omega)).pFe (by decide), m.pln q⟩
theorem MBX.up1 (m : MBX z b st nd nu lim B0 clo M0 S0 t h fl t0 U who M S) : MBX z b st nd nu lim B0 clo M0 S0 (t + 1) h fl t0 U who M S := m.mb (Nat.le_succ t)
theorem ok1 (f : FMp z b rc g pi J h fl t0 c M S) (hr : RN N K z st t M = RN N K z st (t + 1) M2) (m2 : MBX z b st nd nu lim B0 clo M0 S0 (t + 1) h fl t0 U who M2 S2) (pr : PR z h fl t0 M M2 S S2) {c' : Nat} (hc : c' < rc) (ct : CTL z b h t0 g pi (pi c') c' (J c').2.1 M2 S2) (k : STK z fl (J c').1 M2 S2) (hg : gS nu S2 ≤ gS nu S) (hk : (J c).2.2 < (J c').2.2) (hk2 : (J c).2.2 < 91) :
    ST1 z b st nd nu lim B0 N K clo M0 S0 rc g pi J t h fl t0 U who c M S 0 S2 :=
  Or.inl ⟨rfl, t + 1, M2, c', hr, m2, fmp_mk hc ct k, pr, by omega, by omega⟩
theorem er1 {q p n : Nat} (hf : 2 ≤ (g c).1 ∧ (g c).1 ≠ 13) (h90 : mF S2 90 ≠ 0) (hr : RN N K z st t M = (RSE N K z 0 (mF S2 90) (mF S2 91) M2).bind (RN N K z st (t + 1))) (m2 : MBX z b st nd nu lim B0 clo M0 S0 (t + 1) h fl t0 U who M2 S2) (hh : h ≤ 24) (pr : PR z h fl t0 M M2 S S2) (ct : CTL z b h t0 g pi q p (J c).2.1 M2 S2) (k : STK z fl n M2 S2) (hg : gS nu S2 ≤ gS nu S) :
    ST1 z b st nd nu lim B0 N K clo M0 S0 rc g pi J t h fl t0 U who c M S 1 S2 :=
  Or.inr (Or.inl ⟨rfl, t + 1, 0, M2, hr, m2, fmc_mk ct k h90, by omega, pr, by omega, by omega, hf⟩)
/-- a number put on the stacks -/
theorem i_push (X : CDX z b st nd nu K M0 S0 mk rc cc g pi J cl) (m : MBX z b st nd nu lim B0 clo M0 S0 t h fl t0 U who M S) (f : FMp z b rc g pi J h fl t0 c M S) {o : Nat} (ho : (g c).1 = o) (h0 : ft o ∧ o ≠ 1 ∧ o ≠ 12 ∧ o ≠ 30) (hp : pp o = 0 ∧ ps o = 1) {X1 : Option Cm} {X2 : Option (Int32 × Ms)} {v : Int32} (hr : RN N K z st t M = X1.bind (RN N K z st (t + 1))) (h1 : X1 = fC_X2_push N K (z + 35) v M1) (h2 : X2 = (fM_push N v S1).bind fun o => some (0, o)) (hL : LY z K M1) (m1 : MBX z b st nd nu lim B0 clo M0 S0 (t + 1) h fl t0 U who M1 S1) (pr : PR z h fl t0 M M1 S S1) (ct : CTL z b h t0 g pi (pi c + 1) (c + 1) (J c).2.1 M1 S1) (k : STK z fl (J c).1 M1 S1) (hg : gS nu S1 ≤ gS nu S) :
    ∃ e S2, X2 = some (e, S2) ∧ ST1 z b st nd nu lim B0 N K clo M0 S0 rc g pi J t h fl t0 U who c M S e S2 := by
  have hh := m.hh X
  obtain ⟨-, -, p3, p4, -⟩ := X.pl f.1
  obtain ⟨c1, c2⟩ := p3 (by unfold ft at h0; omega)
  obtain ⟨w1, w2, w3, w4, w5, w6⟩ := w1_nx p4 ho h0.1 h0.2.1 h0.2.2 hp.1 hp.2
  have j34 := (X.pl c1).2.2.2.1.1.1
  have f34 : fl ≤ 34 * h := by obtain ⟨nh, no, -, -, -, -, -, -, m5, -⟩ := m; exact m5.2.2.2.1
  obtain ⟨M2, S2, a1, a2, a3, a4, a5⟩ := push_ok hL N (h := h) (fl := fl) (n := (J c).1) (by omega) (by omega) v k ct
  have tw1 : tw (g c) = 1 := by unfold tw ft at *; rw [if_neg (by omega)]
  rw [tw1] at c2
  refine ⟨0, S2, by rw [h2, a2]; rfl, ok1 f ?_ (m1.pln a3) (pr.tr a3.pr) c1 ?_ ?_ (Nat.le_trans a3.gs hg) w4 (by omega)⟩
  · rw [hr, h1, a1]; rfl
  · rw [c2, w3]; exact a5
  · rw [show (J (c + 1)).1 = (J c).1 + 1 by omega]; exact a4
theorem o_2 (X : CDX z b st nd nu K M0 S0 mk rc cc g pi J cl) (hN : 1000000 < N) (m : MBX z b st nd nu lim B0 clo M0 S0 t h fl t0 U who M S) (f : FMp z b rc g pi J h fl t0 c M S) (ht : t < 1000000) (GT : Nat → Int32 → Int32 → Int32 → Int32 → Int32 → Ms → Option (Int32 × Ms)) (ho : (g c).1 = 2) :
    ∃ e S2, fM_work N GT (nI 2) (nI (g c).2.1) 0 who clo (pF S 99 (nI (10000 * b + (c + 1)))) = some (e, S2) ∧ ST1 z b st nd nu lim B0 N K clo M0 S0 rc g pi J t h fl t0 U who c M S e S2 := by
  obtain ⟨r1, r2, r3, r4, r5, r6⟩ := tk_at X hN m f ht (w := 2) (fo := 0) (s := nI (g c).2.1) (by unfold cwd; rw [ho]; rfl) (by decide) (by decide)
  refine i_push X m f ho ⟨by unfold ft; decide, by decide, by decide, by decide⟩ ⟨by decide, by decide⟩ r1 (pf2 (r3.k 35 3 0 rfl) _ _) ?_ r3 r6.up1 r2.pr r4 r5 r2.gs
  unfold fM_work
  rw [if_neg (by decide), if_pos (by decide)]
theorem o_14 (X : CDX z b st nd nu K M0 S0 mk rc cc g pi J cl) (hN : 1000000 < N) (m : MBX z b st nd nu lim B0 clo M0 S0 t h fl t0 U who M S) (f : FMp z b rc g pi J h fl t0 c M S) (ht : t < 1000000) (GT : Nat → Int32 → Int32 → Int32 → Int32 → Int32 → Ms → Option (Int32 × Ms)) (ho : (g c).1 = 14) :
    ∃ e S2, fM_work N GT (nI 14) (nI (g c).2.1) 0 who clo (pF S 99 (nI (10000 * b + (c + 1)))) = some (e, S2) ∧ ST1 z b st nd nu lim B0 N K clo M0 S0 rc g pi J t h fl t0 U who c M S e S2 := by
  have hd : (g c).2.1 < nd := (X.pl f.1).2.2.2.2.1.2.2.2.2.1 (Or.inr ho)
  have hd24 : nd ≤ 24 := X.1.2.2.1
  obtain ⟨r1, r2, r3, r4, r5, r6⟩ := tk_at X hN m f ht (w := 10) (fo := (g c).2.1) (s := 0) (by unfold cwd; rw [ho]; rfl) (by decide) (by omega)
  have hv : cI (wI M (z + 38 + 2 * h) 2 (nI (pi c + 1))) (z + 17) (g c).2.1 = mA (pF S 99 (nI (10000 * b + (c + 1)))) 61 (g c).2.1 := by
    obtain ⟨nh, no, -, -, d, -⟩ := r6
    exact (d.2.2.2.2.2.2.2.2.1 _ hd).1
  refine i_push X m f ho ⟨by unfold ft; decide, by decide, by decide, by decide⟩ ⟨by decide, by decide⟩ r1 ((pf10 _ _ (r3.k 35 3 0 rfl)).trans (pp10 r3 (by omega))) ?_ r3 r6.up1 r2.pr r4 r5 r2.gs
  rw [hv]
  unfold fM_work fM_reckons bM_reckons_206
  rw [if_neg (by decide), if_neg (by decide), if_neg (by decide), if_neg (by decide), if_neg (by decide), if_neg (by decide), if_neg (by decide), if_neg (by decide), if_neg (by decide), if_neg (by decide), if_neg (by decide), if_neg (by decide), if_neg (by decide), if_pos (by decide), ck_n (show (g c).2.1 < 24 by omega) (by decide), nI_clamp (by omega)]
  exact bn_some _
theorem o_15 (X : CDX z b st nd nu K M0 S0 mk rc cc g pi J cl) (hN : 1000000 < N) (m : MBX z b st nd nu lim B0 clo M0 S0 t h fl t0 U who M S) (f : FMp z b rc g pi J h fl t0 c M S) (ht : t < 1000000) (GT : Nat → Int32 → Int32 → Int32 → Int32 → Int32 → Ms → Option (Int32 × Ms)) (ho : (g c).1 = 15) :
    ∃ e S2, fM_work N GT (nI 15) 0 0 who clo (pF S 99 (nI (10000 * b + (c + 1)))) = some (e, S2) ∧ ST1 z b st nd nu lim B0 N K clo M0 S0 rc g pi J t h fl t0 U who c M S e S2 := by
  have hh := m.hh X
  obtain ⟨r1, r2, r3, r4, r5, r6⟩ := tk_at X hN m f ht (w := 11) (fo := 0) (s := 0) (by unfold cwd; rw [ho]; rfl) (by decide) (by decide)
  have h5 : cR (wI M (z + 38 + 2 * h) 2 (nI (pi c + 1))) (z + 35) 5 = some (z + 38 + 2 * h) := by obtain ⟨nh, no, -, -, -, m2, -⟩ := r6; exact m2.2.1
  refine i_push X m f ho ⟨by unfold ft; decide, by decide, by decide, by decide⟩ ⟨by decide, by decide⟩ r1 ((pf11 _ _ (r3.k 35 3 0 rfl)).trans (pp11 r3 (by omega) h5 _)) ?_ r3 r6.up1 r2.pr r4 r5 r2.gs
  rw [r4.2.2.1]
  unfold fM_work fM_reckons bM_reckons_206
  rw [if_neg (by decide), if_neg (by decide), if_neg (by decide), if_neg (by decide), if_neg (by decide), if_neg (by decide), if_neg (by decide), if_neg (by decide), if_neg (by decide), if_neg (by decide), if_neg (by decide), if_neg (by decide), if_neg (by decide), if_neg (by decide), if_pos (by decide)]
  exact bn_some _
theorem o_16 (X : CDX z b st nd nu K M0 S0 mk rc cc g pi J cl) (hP : RPB z nu M0 S0) (hN : 1000000 < N) (m : MBX z b st nd nu lim B0 clo M0 S0 t h fl t0 U who M S) (f : FMp z b rc g pi J h fl t0 c M S) (ht : t < 1000000) (GT : Nat → Int32 → Int32 → Int32 → Int32 → Int32 → Ms → Option (Int32 × Ms)) (ho : (g c).1 = 16) :
    ∃ e S2, fM_work N GT (nI 16) 0 0 who clo (pF S 99 (nI (10000 * b + (c + 1)))) = some (e, S2) ∧ ST1 z b st nd nu lim B0 N K clo M0 S0 rc g pi J t h fl t0 U who c M S e S2 := by
  obtain ⟨r1, r2, r3, r4, r5, r6⟩ := tk_at X hN m f ht (w := 12) (fo := 0) (s := 0) (by unfold cwd; rw [ho]; rfl) (by decide) (by decide)
  have hv : cI (wI M (z + 38 + 2 * h) 2 (nI (pi c + 1))) (z + 8) 11 = mF (pF S 99 (nI (10000 * b + (c + 1)))) 63 := by
    obtain ⟨nh, no, -, -, d, -⟩ := r6
    rw [d.1.1 (z + 8) (by unfold stA; omega), d.1.2.2.2.2.1 63 (by unfold stF; omega)]
    exact hP.1
  refine i_push X m f ho ⟨by unfold ft; decide, by decide, by decide, by decide⟩ ⟨by decide, by decide⟩ r1 ((pf12 _ _ (r3.k 35 3 0 rfl)).trans (pp12 r3 _)) ?_ r3 r6.up1 r2.pr r4 r5 r2.gs
  rw [hv]
  unfold fM_work fM_reckons bM_reckons_206
  rw [if_neg (by decide), if_neg (by decide), if_neg (by decide), if_neg (by decide), if_neg (by decide), if_neg (by decide), if_neg (by decide), if_neg (by decide), if_neg (by decide), if_neg (by decide), if_neg (by decide), if_neg (by decide), if_neg (by decide), if_neg (by decide), if_neg (by decide), if_pos (by decide)]
  exact bn_some _
/-- a need noted ahead of an instruction's own doing -/
theorem nd_at (X : CDX z b st nd nu K M0 S0 mk rc cc g pi J cl) (hN : 1000000 < N) (m : MBX z b st nd nu lim B0 clo M0 S0 t h fl t0 U who M S) {x : Nat} (hx : x < nu) :
    ∃ M1 S1, fC_X2_noteNeed N K (z + 35) (nI x) M = some M1 ∧ fM_noteNeed N (nI x) who clo S = some S1 ∧ MBX z b st nd nu lim B0 clo M0 S0 t h fl t0 U who M1 S1 ∧ DCH z M M1 S S1 ∧ NDN nu S1 clo who x ∧ (NDN nu S clo who x → M1 = M) := by
  have hh := m.hh X
  have hL := m.ly X
  obtain ⟨nh, no, n1, n2, m⟩ := m
  obtain ⟨d, e1, e2, e3, e4, e5⟩ := id m
  obtain ⟨M1, S1, a1, a2, a3, a4, a5, a6⟩ := nn_act (N := N) hL (show 30 < N by omega) X.1.2.1 (h0 := h) (x := x) (clo := clo) (who := who) (by omega) e1.2.2.2.2.2.2.2 (e5.elim (fun w => Or.inl w.1) (fun w => Or.inr w.1)) e1.2.1 e4.1 e4.2.1 hx d
  exact ⟨M1, S1, a1, a2, ⟨nh, no, n1, n2, m.dch a4.dch (by omega) a3⟩, a4.dch, a5, a6⟩
theorem o_3 (X : CDX z b st nd nu K M0 S0 mk rc cc g pi J cl) (hN : 1000000 < N) (m : MBX z b st nd nu lim B0 clo M0 S0 t h fl t0 U who M S) (f : FMp z b rc g pi J h fl t0 c M S) (ht : t < 1000000) (GT : Nat → Int32 → Int32 → Int32 → Int32 → Int32 → Ms → Option (Int32 × Ms)) (ho : (g c).1 = 3) :
    ∃ e S2, fM_work N GT (nI 3) (nI (g c).2.1) (nI (g c).2.2) who clo (pF S 99 (nI (10000 * b + (c + 1)))) = some (e, S2) ∧ ST1 z b st nd nu lim B0 N K clo M0 S0 rc g pi J t h fl t0 U who c M S e S2 := by
  have hh := m.hh X
  have hb := X.b2
  obtain ⟨hu, ⟨ni, hs1, -, hs2⟩, -⟩ := (X.pl f.1).2.2.2.2.1.2.1 ho
  have hu24 : nu ≤ 24 := X.1.2.1
  obtain ⟨r1, r2, r3, r4, r5, r6⟩ := tk_at X hN m f ht (w := 3) (fo := (g c).2.1) (s := mA S0 28 (sl8 b (g c).2.1 (g c).2.2)) (by unfold cwd; rw [ho]; rfl) (by decide) (by omega)
  obtain ⟨M1, S1, a1, a2, a3, a4, -, -⟩ := nd_at X hN r6 hu
  have hv : mA S1 28 (sl8 b (g c).2.1 (g c).2.2) = mA S0 28 (sl8 b (g c).2.1 (g c).2.2) ∧ mF S1 11 = nI b := by
    obtain ⟨nh, no, -, -, d, -⟩ := a3
    rw [d.1.2.2.2.2.2.1 28 (by unfold stR; omega), d.1.2.2.2.2.1 11 (by unfold stF; omega)]
    exact ⟨rfl, X.1.2.2.2.2.2.2.2.1⟩
  refine i_push X m f ho (v := mA S0 28 (sl8 b (g c).2.1 (g c).2.2)) ⟨by unfold ft; decide, by decide, by decide, by decide⟩ ⟨by decide, by decide⟩ r1 ((pf3 (r3.k 35 3 0 rfl) _ _).trans ?_) ?_ (a3.ly X) a3.up1 (r2.pr.tr (a4.pr (by omega))) (r4.dch a4 (by omega)) (r5.dch a4) (Nat.le_trans a4.gs r2.gs)
  · rw [a1]; rfl
  · unfold fM_work
    have hi : 8 * (24 * b + (g c).2.1) + (g c).2.2 < 384 := by omega
    rw [if_neg (by decide), if_neg (by decide), if_pos (by decide), a2, bs, hv.2, ix24, ix8, ck_n hi (by decide), nI_clamp (by omega)]
    rw [show mA S1 28 (8 * (24 * b + (g c).2.1) + (g c).2.2) = mA S0 28 (sl8 b (g c).2.1 (g c).2.2) from hv.1]
end PLAIN
