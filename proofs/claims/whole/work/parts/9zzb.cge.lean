/-! the code relation between calls: it stands where the station's own cells and rows are left alone -/
def CGE (sm bn nd nu nm : Nat) (K : Ka) (M : Cm) (S : Ms) : Prop := (nd = 0 ∧ nu = 0 ∧ nm = 0) ∨ ∃ mk rc cc, ((rc ≤ cc ∧ cc ≤ 8000 ∧ sm + 11 ≤ kz K) ∧ (cR M sm 9 = some (sm + 10) ∧ kd K (sm + 10) = 23 ∧ cc ≤ le K (sm + 10) ∧ le K (sm + 10) < 2 ^ 31 ∧ cI M sm 13 = nI cc) ∧ cR M sm 8 = some (sm + 9) ∧ kd K (sm + 9) = 22 ∧ nm ≤ le K (sm + 9) ∧ le K (sm + 9) < 2 ^ 31) ∧ PU K M S bn sm nu ∧ DMD M S bn sm nm mk ∧ UND K M S bn sm nu mk ∧ CDF bn sm nd nu M S mk rc cc
section CGEPW
variable {sm bn nd nu nm : Nat} {K K' : Ka} {M M' : Cm} {S S' : Ms} {mk : List Mk}
def RWp (bn : Nat) (S S' : Ms) : Prop := (∀ k j, 13 ≤ k → k ≤ 42 → k ≠ 34 → BKn bn k j → mA S' k j = mA S k j) ∧ ∀ j, BKn bn 26 j → mL S' 26 j = mL S 26 j
def CLp (sm : Nat) (K K' : Ka) (M M' : Cm) : Prop := KE K K' ∧ (∀ a, sm ≤ a → a < kz K → a ≠ sm + 7 → cI M' a = cI M a) ∧ (∀ a, sm ≤ a → a < kz K → cL M' a = cL M a) ∧ ∀ a, sm ≤ a → a < kz K → cR M' a = cR M a
theorem RWp.r24 (h : RWp bn S S') {k u : Nat} (hk : bw k = 24) (h1 : 20 ≤ k) (h2 : k ≤ 33) (hu : u < 24) : mA S' k (24 * bn + u) = mA S k (24 * bn + u) := h.1 k _ (by omega) (by omega) (by omega) (by unfold BKn; rw [hk]; omega)
theorem RWp.r192 (h : RWp bn S S') {k u s : Nat} (hk : bw k = 192) (h1 : 26 ≤ k) (h2 : k ≤ 29) (hu : u < 24) (hs : s < 8) : mA S' k (8 * (24 * bn + u) + s) = mA S k (8 * (24 * bn + u) + s) := h.1 k _ (by omega) (by omega) (by omega) (by unfold BKn; rw [hk]; omega)
theorem RWp.r144 (h : RWp bn S S') {u s : Nat} (hu : u < 24) (hs : s < 6) : mA S' 24 (6 * (24 * bn + u) + s) = mA S 24 (6 * (24 * bn + u) + s) := h.1 24 _ (by omega) (by omega) (by omega) (by unfold BKn; rw [show bw 24 = 144 from rfl]; omega)
theorem RWp.l26 (h : RWp bn S S') {u s : Nat} (hu : u < 24) (hs : s < 8) : mL S' 26 (8 * (24 * bn + u) + s) = mL S 26 (8 * (24 * bn + u) + s) := h.2 _ (by unfold BKn; rw [show bw 26 = 192 from rfl]; omega)
theorem UA.pw (hC : CLp sm K K' M M') (hS : RWp bn S S') {u tu : Nat} (hu : u < 24) (h7 : sm + 11 ≤ kz K) (h : UA K M S bn sm u tu) : UA K' M' S' bn sm u tu := by
  obtain ⟨h1, h2, h3, h4, h5, h6, hh7, h8, h9, h10, h11, nr, n1, n2, n3⟩ := h
  have c := hC.2.1 tu (by omega) (by omega) (by omega)
  have c1 := hC.2.1 (tu + 1) (by omega) (by omega) (by omega)
  have cr := hC.2.2.2 tu (by omega) (by omega)
  refine ⟨by rw [hC.2.2.2 (sm + 6) (by omega) (by omega)]; exact h1, ⟨h2.1, Nat.le_trans h2.2 hC.1.1⟩, by rw [(hC.1.2 tu (by omega)).1]; exact h3, fun sl kind len hm => ?_, ?_, ?_, ?_, ?_, ?_, ?_, ?_, nr, n1, ?_, fun k hk => ?_⟩
  · obtain ⟨w1, w2, w3⟩ := h4 sl kind len hm
    have hb : sl ≤ 5 := by
      simp only [List.mem_cons, List.not_mem_nil, or_false, Prod.mk.injEq] at hm
      omega
    have e := hC.1.2 (tu + sl - 1) (by omega)
    rw [cr, e.1, e.2]
    exact ⟨w1, w2, w3⟩
  · rw [c, hS.r24 rfl (by decide) (by decide) hu]; exact h5
  · rw [hS.r24 rfl (by decide) (by decide) hu]; exact h6
  · rw [c, hS.r24 rfl (by decide) (by decide) hu]; exact hh7
  · rw [hS.r24 rfl (by decide) (by decide) hu]; exact h8
  · rw [c, hS.r24 rfl (by decide) (by decide) hu]; exact h9
  · rw [c, hS.r24 rfl (by decide) (by decide) hu]; exact h10
  · rw [hS.r24 rfl (by decide) (by decide) hu]; exact h11
  · rw [hS.r24 rfl (by decide) (by decide) hu]; exact n2
  · obtain ⟨r, w1, w2, w3⟩ := n3 k hk
    exact ⟨r, w1, by rw [hS.r144 hu (by omega)]; exact w2, by rw [c1]; exact w3⟩
theorem UB.pw (hC : CLp sm K K' M M') (hS : RWp bn S S') {u tu : Nat} (hu : u < 24) (h1 : sm + 11 ≤ tu ∧ tu + 10 ≤ kz K) (h : UB M S bn u tu) : UB M' S' bn u tu := by
  obtain ⟨ni, ns, a1, a2, a3, a4, a5, a6, a7, a8, a9, a10, a11, a12⟩ := h
  have c := hC.2.1 tu (by omega) (by omega) (by omega)
  have c3 := hC.2.1 (tu + 3) (by omega) (by omega) (by omega)
  have c4 := hC.2.1 (tu + 4) (by omega) (by omega) (by omega)
  have c2 := hC.2.2.1 (tu + 2) (by omega) (by omega)
  have r : ∀ k s, s < ni → bw k = 192 → 26 ≤ k → k ≤ 29 → mA S' k (8 * (24 * bn + u) + s) = mA S k (8 * (24 * bn + u) + s) := fun k s hs hk k1 k2 => hS.r192 hk k1 k2 hu (by omega)
  have rl : ∀ s, s < ni → mL S' 26 (8 * (24 * bn + u) + s) = mL S 26 (8 * (24 * bn + u) + s) := fun s hs => hS.l26 hu (by omega)
  refine ⟨ni, ns, a1, a2, by rw [c]; exact a3, by rw [hS.r24 rfl (by decide) (by decide) hu]; exact a4, by rw [c]; exact a5, by rw [hS.r24 rfl (by decide) (by decide) hu]; exact a6, by rw [hS.r24 rfl (by decide) (by decide) hu]; exact a7, ⟨fun d hd r hr => by rw [rl d hd]; exact a8.1 d hd r hr, fun d e hd he => by rw [rl d hd, rl e he]; exact a8.2 d e hd he⟩, fun s hs => ?_, fun r' hr => ?_, fun s s' hs hs' => ?_, fun s hs => by rw [c4]; exact a12 s hs⟩
  · rw [c2, c3, c4, rl s hs, r 27 s hs rfl (by decide) (by decide), r 28 s hs rfl (by decide) (by decide), r 29 s hs rfl (by decide) (by decide)]
    exact a9 s hs
  · obtain ⟨s, w1, w2, w3⟩ := a10 r' hr
    exact ⟨s, w1, by rw [r 27 s w1 rfl (by decide) (by decide)]; exact w2, by rw [r 29 s w1 rfl (by decide) (by decide)]; exact w3⟩
  · rw [r 27 s hs rfl (by decide) (by decide), r 27 s' hs' rfl (by decide) (by decide), r 29 s hs rfl (by decide) (by decide), r 29 s' hs' rfl (by decide) (by decide)]
    exact a11 s s' hs hs'
theorem UC.pw (hC : CLp sm K K' M M') {fl : Nat → List Nat} {u tu : Nat} (h1 : sm + 11 ≤ tu ∧ tu + 10 ≤ kz K) (h : UC K M sm fl u tu) : UC K' M' sm fl u tu := by
  obtain ⟨su, L, c1, c2, c3, c4, c5, c6, c7⟩ := h
  have e := hC.1.2 su c5.2.1
  have hk := hC.1.1
  exact ⟨su, L, by rw [hC.2.2.2 tu (by omega) (by omega)]; exact c1, by rw [e.1]; exact c2, by rw [e.2]; exact c3, c4, by omega, fun j hj => by rw [hC.2.1 su (by omega) (by omega) (by omega)]; exact c6 j hj, c7⟩
theorem fm_congr {f g : Nat → List Nat} : ∀ L : List Nat, (∀ x, x ∈ L → f x = g x) → L.flatMap f = L.flatMap g := by
  intro L
  induction L with
  | nil => intro _; rfl
  | cons a L ih =>
    intro h
    rw [List.flatMap_cons, List.flatMap_cons, h a List.mem_cons_self, ih (fun x hx => h x (List.mem_cons_of_mem _ hx))]
theorem PU.pw (hC : CLp sm K K' M M') (hS : RWp bn S S') (hn : nu ≤ 24) (h11 : sm + 11 ≤ kz K) (h : PU K M S bn sm nu) : PU K' M' S' bn sm nu := by
  obtain ⟨p1, p2, fl, p3⟩ := h
  have cr := hC.2.2.2 sm (by omega) (by omega)
  have e6 := hC.1.2 (sm + 6) (by omega)
  have e7 := hC.1.2 (sm + 7) (by omega)
  refine ⟨by rw [cr, e6.1, e6.2]; exact p1, ?_, fl, fun u hu => ?_⟩
  · unfold SEP at p2 ⊢
    rw [cr, e7.1, e7.2, hC.2.2.2 (sm + 6) (by omega) (by omega)]
    exact p2
  · obtain ⟨⟨tu, a1, a2, a3⟩, a4⟩ := p3 u hu
    refine ⟨⟨tu, a1.pw hC hS (by omega) h11, a2.pw hC hS (by omega) a1.2.1, a3.pw hC a1.2.1⟩, ?_⟩
    obtain ⟨-, -, -, -, -, -, -, -, -, -, -, nr, n1, n2, -⟩ := a1
    rw [a4]
    unfold flq
    rw [hS.r24 rfl (by decide) (by decide) (show u < 24 by omega), hS.r24 rfl (by decide) (by decide) (show u < 24 by omega), n2, nI_clamp (by omega)]
    have e : (List.range nr).flatMap (fun k => fl (mA S 24 (6 * (24 * bn + u) + k)).toNatClampNeg) = (List.range nr).flatMap (fun k => fl (mA S' 24 (6 * (24 * bn + u) + k)).toNatClampNeg) := by
      refine fm_congr _ fun k hk => ?_
      rw [hS.r144 (by omega) (by have := List.mem_range.mp hk; omega)]
    rw [e]
theorem clr_pw (hS : RWp bn S S') (cl : Nat → List Nat) {u : Nat} (hu : u < 24) : ∀ k, k ≤ 6 → clr S' bn cl u k = clr S bn cl u k := by
  intro k
  induction k with
  | zero => intro _; rfl
  | succ k ih => intro hk; rw [clr, clr, ih (by omega), hS.r144 hu (by omega)]
theorem UND.pw (hC : CLp sm K K' M M') (hS : RWp bn S S') (hn : nu ≤ 24) (h11 : sm + 11 ≤ kz K) (pu : PU K M S bn sm nu) (h : UND K M S bn sm nu mk) : UND K' M' S' bn sm nu mk := by
  obtain ⟨cl, h⟩ := h
  obtain ⟨-, -, fl, p3⟩ := pu
  refine ⟨cl, fun u hu => ?_⟩
  obtain ⟨⟨tu', ⟨-, -, -, -, -, -, -, -, -, -, -, nr, n1, n2, n3⟩, -⟩, -⟩ := p3 u hu
  have u24 : u < 24 := by omega
  obtain ⟨tu, cu, h1, h2, h3, h4, h5, h6, h7, h8, h9, h10, ⟨r0, c0, hh11, h12, h13⟩, h14⟩ := h u hu
  have e1 := hC.2.1 tu (by omega) (by omega) (by omega)
  have e2 := hC.2.1 cu (by omega) (by omega) (by omega)
  have ek := hC.1.2 cu h6.2.1
  have hk := hC.1.1
  have r20 := hS.r24 (k := 20) rfl (by decide) (by decide) u24
  have ec : clq S' bn cl u = clq S bn cl u := by
    unfold clq
    rw [hS.r24 (k := 23) rfl (by decide) (by decide) u24, n2, nI_clamp (by omega), clr_pw hS cl u24 nr n1, r20]
  have er : RRO S' bn u := fun k hk => by
    rw [hS.r24 (k := 23) rfl (by decide) (by decide) u24, n2, nI_clamp (by omega)] at hk
    obtain ⟨r, w1, w2, -⟩ := n3 k hk
    have q := h10.2 k (by rw [n2, nI_clamp (by omega)]; exact hk)
    rw [hS.r144 u24 (by omega)]
    rw [w2, nI_clamp (by omega)] at q ⊢
    rw [hS.r24 (k := 20) rfl (by decide) (by decide) (by omega)]
    exact q
  have eb : blq S' bn cl u = blq S bn cl u := by
    unfold blq
    rw [r20, hS.r24 (k := 22) rfl (by decide) (by decide) u24]
    have : (cl u).filter (fun x => decide (mA S' 21 (24 * bn + x) ≠ 0)) = (cl u).filter (fun x => decide (mA S 21 (24 * bn + x) ≠ 0)) := List.filter_congr fun x hx => by
      rw [hS.r24 (k := 21) rfl (by decide) (by decide) (by have := (h9 x hx).1; omega)]
    rw [this]
  refine ⟨tu, cu, by rw [hC.2.2.2 (sm + 6) (by omega) (by omega)]; exact h1, by rw [hC.2.2.2 tu (by omega) (by omega)]; exact h2, by rw [ek.1]; exact h3, by rw [ek.2]; exact h4, h5, by omega, by rw [e2]; exact h7, by rw [ec]; exact h8, fun x hx => ⟨(h9 x hx).1, by rw [hS.r24 (k := 20) rfl (by decide) (by decide) (by have := (h9 x hx).1; omega)]; exact (h9 x hx).2⟩, ⟨h10.1, er⟩, ⟨r0, c0, by rw [e1, eb]; exact hh11, by rw [hS.r24 (k := 32) rfl (by decide) (by decide) u24]; exact h12, by rw [eb]; exact h13⟩, ?_⟩
  rw [e1, hS.r24 (k := 33) rfl (by decide) (by decide) u24]
  exact h14
theorem DMD.pw (hC : CLp sm K K' M M') (hS : RWp bn S S') (hn : nm ≤ 20) (h11 : sm + 11 ≤ kz K) (h : DMD M S bn sm nm mk) : DMD M' S' bn sm nm mk := by
  intro d hd
  obtain ⟨r, c, h1, h2, h3⟩ := h d hd
  exact ⟨r, c, by rw [hC.2.1 (sm + 9) (by omega) (by omega) (by omega)]; exact h1, by rw [hS.1 37 _ (by decide) (by decide) (by decide) (by unfold BKn; rw [show bw 37 = 20 from rfl]; omega)]; exact h2, h3⟩
theorem CGE.pw (hn : nu ≤ 24) (hm : nm ≤ 20) (hC : CLp sm K K' M M') (hS : RWp bn S S') (h : CGE sm bn nd nu nm K M S) : CGE sm bn nd nu nm K' M' S' := by
  rcases h with h | ⟨mk, rc, cc, ⟨⟨a1, a2, a3⟩, ⟨b1, b2, b3, b4, b5⟩, c1, c2, c3, c4⟩, pu, dm, un, cd⟩
  · exact Or.inl h
  · right
    have cr := hC.2.2.2 sm (by omega) (by omega)
    have e10 := hC.1.2 (sm + 10) (by omega)
    have e9 := hC.1.2 (sm + 9) (by omega)
    refine ⟨mk, rc, cc, ⟨⟨a1, a2, Nat.le_trans a3 hC.1.1⟩, ⟨by rw [cr]; exact b1, by rw [e10.1]; exact b2, by rw [e10.2]; exact b3, by rw [e10.2]; exact b4, by rw [hC.2.1 sm (by omega) (by omega) (by omega)]; exact b5⟩, by rw [cr]; exact c1, by rw [e9.1]; exact c2, by rw [e9.2]; exact c3, by rw [e9.2]; exact c4⟩, pu.pw hC hS hn a3, dm.pw hC hS hm a3, un.pw hC hS hn a3 pu, cd.pw hn (by omega) (hC.2.2.1 _ (by omega) (by omega)) (fun k j k1 k2 k3 k4 => hS.1 k j (by omega) (by omega) k3 k4)⟩
end CGEPW
