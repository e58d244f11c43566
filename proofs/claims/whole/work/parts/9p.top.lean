/-! the state of both between devices, units, demands -/
def RWS (K : Ka) (M : Cm) (sm t : Nat) : Prop := (∀ sl kind, (sl, kind) ∈ ([(4, 23), (5, 26), (6, 22)] : List (Nat × Nat)) → cR M sm sl = some (sm + 1 + sl) ∧ kd K (sm + 1 + sl) = kind ∧ le K (sm + 1 + sl) = min ((t + 1) / 4 + 1) 24) ∧ ∀ sl kind, (sl, kind) ∈ ([(7, 23), (8, 22)] : List (Nat × Nat)) → cR M sm sl = some (sm + 1 + sl) ∧ kd K (sm + 1 + sl) = kind ∧ le K (sm + 1 + sl) = min ((t + 1) / 4 + 1) 20
def DVD (M : Cm) (S : Ms) (bn sm nd : Nat) : Prop := ∀ d, d < nd → cI M (sm + 2) d = mA S 15 (24 * bn + d) ∧ cI M (sm + 3) d = mA S 16 (24 * bn + d) ∧ cI M (sm + 4) d = mA S 17 (24 * bn + d) ∧ (∃ x, x ≤ 999999999 ∧ mA S 15 (24 * bn + d) = nI x) ∧ (∃ x, x ≤ 999999999 ∧ mA S 16 (24 * bn + d) = nI x) ∧ ∃ x, 1 ≤ x ∧ x ≤ 999999999 ∧ mA S 17 (24 * bn + d) = nI x
/-- a place where a demand or closing begins -/
def pmk (r c : Nat) : Mk := (r, c, (99, 0, 0), (0, [], 0))
/-- a place where a start begins, behind what it brings -/
def umk (r c : Nat) (bl : List Nat) : Mk := (r, c, (99, 1, 0), (0, bl, 0))
/-- the last instruction -/
def emk (rc cc : Nat) : Mk := (rc - 1, cc - 1, (0, 0, 0), (0, [], 90))
def DMD (M : Cm) (S : Ms) (bn sm nm : Nat) (mk : List Mk) : Prop := ∀ d, d < nm → ∃ r c, cI M (sm + 9) d = nI c ∧ mA S 37 (20 * bn + d) = nI (10000 * bn + r) ∧ pmk r c ∈ mk
/-- the order in which a unit's roles are touched -/
def clr (S : Ms) (bn : Nat) (cl : Nat → List Nat) (u : Nat) : Nat → List Nat
  | 0 => []
  | k + 1 => clr S bn cl u k ++ (cl (mA S 24 (6 * (24 * bn + u) + k)).toNatClampNeg).filter (fun x => !(clr S bn cl u k).contains x)
def clq (S : Ms) (bn : Nat) (cl : Nat → List Nat) (u : Nat) : List Nat := clr S bn cl u (mA S 23 (24 * bn + u)).toNatClampNeg ++ (if mA S 20 (24 * bn + u) = 0 then [u] else [])
/-- what a start brings up ahead -/
def blq (S : Ms) (bn : Nat) (cl : Nat → List Nat) (u : Nat) : List Nat := if mA S 20 (24 * bn + u) = 0 then [] else (if mA S 22 (24 * bn + u) < 0 then [] else [(mA S 22 (24 * bn + u)).toNatClampNeg]) ++ (cl u).filter (fun x => decide (mA S 21 (24 * bn + x) ≠ 0))
/-- a unit's roles are roles -/
def RRO (S : Ms) (bn u : Nat) : Prop := ∀ k, k < (mA S 23 (24 * bn + u)).toNatClampNeg → mA S 20 (24 * bn + (mA S 24 (6 * (24 * bn + u) + k)).toNatClampNeg) = 0
def UND1 (K : Ka) (M : Cm) (S : Ms) (bn sm : Nat) (cl : Nat → List Nat) (mk : List Mk) (u : Nat) : Prop := ∃ tu cu, cR M (sm + 6) u = some tu ∧ cR M tu 11 = some cu ∧ kd K cu = 22 ∧ le K cu = (cl u).length ∧ (cl u).length ≤ 24 ∧ (sm + 11 ≤ cu ∧ cu < kz K ∧ sm + 11 ≤ tu ∧ cu = tu + 9) ∧ (∀ j, j < (cl u).length → cI M cu j = nI ((cl u).getD j 0)) ∧ cl u = clq S bn cl u ∧ (∀ x, x ∈ cl u → x ≤ u ∧ mA S 20 (24 * bn + x) = 0) ∧ ((cl u).Nodup ∧ RRO S bn u) ∧
  (∃ r c, cI M tu 12 = nI (c - ((blq S bn cl u).length + 1)) ∧ mA S 32 (24 * bn + u) = nI (10000 * bn + r) ∧ umk r c (blq S bn cl u) ∈ mk) ∧ ((cI M tu 13 = -1 ∧ mA S 33 (24 * bn + u) = -1) ∨ ∃ r c, cI M tu 13 = nI c ∧ mA S 33 (24 * bn + u) = nI (10000 * bn + r) ∧ pmk r c ∈ mk)
def UND (K : Ka) (M : Cm) (S : Ms) (bn sm nu : Nat) (mk : List Mk) : Prop := ∃ cl : Nat → List Nat, ∀ u, u < nu → UND1 K M S bn sm cl mk u
/-- how many roles -/
def kR (S : Ms) (bn nu : Nat) : Nat := ((List.range nu).filter (fun u => decide (mA S 20 (24 * bn + u) = 0))).length
def TS (z b bn sm size t : Nat) (K0 K : Ka) (M : Cm) (S : Ms) (nd nu nm : Nat) (mk : List Mk) (rc cc a : Nat) : Prop :=
  (EVP z b bn sm t K0 K ∧ PT z K M S size t a ∧ CR z K M sm cc ∧ CD bn sm nd nu M S mk (0, [], 0) rc cc a 0 ∧ LE bn sm nu (fun _ _ => False) M S ∧ mF S 42 = nI (10000 * bn) ∧ mF S 38 = nI rc ∧ (rc = 0 ∨ emk rc cc ∈ mk) ∧ ∀ m, m ∈ mk → m.1 < rc ∧ (m.2.2.1.1 = 99 ∨ m.2.2.1.1 < 28)) ∧
  (NN z K M S bn sm nd nu nm ∧ PU K M S bn sm nu ∧ DVR z K M sm (t + 1) ∧ RWS K M sm t ∧ DVD M S bn sm nd ∧ DMD M S bn sm nm mk ∧ UND K M S bn sm nu mk) ∧
  (9 * nd + 4 * nu + 4 * nm ≤ a ∧ cc + 6 * kR S bn nu ≤ 2 * a + (nu - kR S bn nu) * (kR S bn nu - 10) ∧ kz K ≤ kz K0 + 11 + 10 * nu ∧ ku K ≤ ku K0 + 8400 + 130 * nu)
section TOP
variable {z b bn sm size t nd nu nm iu : Nat} {ex : Nat → Nat → Prop} {K0 K : Ka} {M M' : Cm} {S S' : Ms} {mk mk' : List Mk} {j : Jt} {rc cc a v rv dp : Nat}
theorem kR_le (S : Ms) (bn nu : Nat) : kR S bn nu ≤ nu := by
  unfold kR
  have := List.length_filter_le (fun u => decide (mA S 20 (24 * bn + u) = 0)) (List.range nu)
  rw [List.length_range] at this
  exact this
theorem bud24 : ∀ n, n < 25 → ∀ k, k < 25 → k ≤ n → (n - k) * (k - 10) ≤ 6 * k := by decide
theorem kR_bud {nu : Nat} (h : nu ≤ 24) (S : Ms) (bn : Nat) : (nu - kR S bn nu) * (kR S bn nu - 10) ≤ 6 * kR S bn nu := by
  have := kR_le S bn nu
  exact bud24 nu (by omega) _ (by omega) this
theorem DVD.fr (hf : FR z b sm K0 M M' S S') (hs : z + 174 ≤ sm) (h : DVD M S bn sm nd) : DVD M' S' bn sm nd := by
  unfold DVD at h ⊢
  rw [hf.1 (sm + 2) (by omega) (by omega) (by omega), hf.1 (sm + 3) (by omega) (by omega) (by omega), hf.1 (sm + 4) (by omega) (by omega) (by omega), hf.2.2.2.2.2.2.1 15 (by decide) (by decide) (by decide), hf.2.2.2.2.2.2.1 16 (by decide) (by decide) (by decide), hf.2.2.2.2.2.2.1 17 (by decide) (by decide) (by decide)]
  exact h
theorem DMD.fr (hf : FR z b sm K0 M M' S S') (hs : z + 174 ≤ sm) (hm : ∀ m, m ∈ mk → m ∈ mk') (h : DMD M S bn sm nm mk) : DMD M' S' bn sm nm mk' := by
  intro d hd
  obtain ⟨r, c, h1, h2, h3⟩ := h d hd
  exact ⟨r, c, by rw [hf.1 (sm + 9) (by omega) (by omega) (by omega)]; exact h1, by rw [hf.2.2.2.2.2.2.1 37 (by decide) (by decide) (by decide)]; exact h2, hm _ h3⟩
theorem clr_ag {S S' : Ms} (h24 : mA S' 24 = mA S 24) (bn : Nat) (cl : Nat → List Nat) (u : Nat) : ∀ k, clr S' bn cl u k = clr S bn cl u k := by
  intro k
  induction k with
  | zero => rfl
  | succ k ih => rw [clr, clr, ih, h24]
theorem UND.fr (hf : FR z b sm K0 M M' S S') (hs : z + 174 ≤ sm) (hm : ∀ m, m ∈ mk → m ∈ mk') (h : UND K M S bn sm nu mk) : UND K M' S' bn sm nu mk' := by
  obtain ⟨cl, h⟩ := h
  have r : ∀ k, k ≠ 34 → ¬ (39 ≤ k ∧ k ≤ 47) → k ≠ 53 → mA S' k = mA S k := hf.2.2.2.2.2.2.1
  have r20 := r 20 (by decide) (by decide) (by decide)
  have r21 := r 21 (by decide) (by decide) (by decide)
  have r22 := r 22 (by decide) (by decide) (by decide)
  have r23 := r 23 (by decide) (by decide) (by decide)
  have r24 := r 24 (by decide) (by decide) (by decide)
  have r32 := r 32 (by decide) (by decide) (by decide)
  have r33 := r 33 (by decide) (by decide) (by decide)
  have eb : ∀ u, blq S' bn cl u = blq S bn cl u := fun u => by unfold blq; rw [r20, r21, r22]
  have ec : ∀ u, clq S' bn cl u = clq S bn cl u := fun u => by unfold clq; rw [r20, r23, clr_ag r24]
  refine ⟨cl, fun u hu => ?_⟩
  obtain ⟨tu, cu, h1, h2, h3, h4, h5, h6, h7, h8, h9, h10, ⟨r0, c0, h11, h12, h13⟩, h14⟩ := h u hu
  have e1 := hf.1 tu (by omega) (by omega) (by omega)
  have e2 := hf.1 cu (by omega) (by omega) (by omega)
  refine ⟨tu, cu, by rw [hf.2.2.1]; exact h1, by rw [hf.2.2.1]; exact h2, h3, h4, h5, h6, by rw [e2]; exact h7, by rw [ec]; exact h8, by rw [r20]; exact h9, ⟨h10.1, by have q := h10.2; unfold RRO at q ⊢; rw [r23, r20, r24]; exact q⟩, ⟨r0, c0, by rw [e1, eb]; exact h11, by rw [r32]; exact h12, by rw [eb]; exact hm _ h13⟩, ?_⟩
  rw [e1, r33]
  rcases h14 with q | ⟨r1, c1, q1, q2, q3⟩
  · exact Or.inl q
  · exact Or.inr ⟨r1, c1, q1, q2, hm _ q3⟩
theorem PU.st (hI : ∀ q, sm + 11 ≤ q → cI M' q = cI M q) (hL : ∀ q, sm + 11 ≤ q → cL M' q = cL M q) (hR : cR M' = cR M) (hA : ∀ k, 20 ≤ k → k ≤ 31 → mA S' k = mA S k) (h26 : mL S' 26 = mL S 26) (h : PU K M S bn sm nu) : PU K M' S' bn sm nu := by
  obtain ⟨p1, p2, fl, p3⟩ := h
  refine ⟨by rw [hR]; exact p1, by unfold SEP; rw [hR]; exact p2, fl, fun u hu => ?_⟩
  obtain ⟨⟨tu, a1, a2, a3⟩, a4⟩ := p3 u hu
  have ht := a1.2.1
  have r20 := hA 20 (by decide) (by decide)
  have r21 := hA 21 (by decide) (by decide)
  have r22 := hA 22 (by decide) (by decide)
  have r23 := hA 23 (by decide) (by decide)
  have r24 := hA 24 (by decide) (by decide)
  have r25 := hA 25 (by decide) (by decide)
  have r27 := hA 27 (by decide) (by decide)
  have r28 := hA 28 (by decide) (by decide)
  have r29 := hA 29 (by decide) (by decide)
  have r30 := hA 30 (by decide) (by decide)
  have r31 := hA 31 (by decide) (by decide)
  refine ⟨⟨tu, ?_, ?_, ?_⟩, ?_⟩
  · unfold UA at a1 ⊢
    rw [r20, r21, r22, r23, r24, hI tu (by omega), hI (tu + 1) (by omega), hR]
    exact a1
  · unfold UB NM1 at a2 ⊢
    rw [r25, r27, r28, r29, r30, r31, h26, hI tu (by omega), hI (tu + 3) (by omega), hI (tu + 4) (by omega), hL (tu + 2) (by omega)]
    exact a2
  · unfold UC at a3 ⊢
    obtain ⟨su, L, c1, c2, c3, c4, c5, c6, c7⟩ := a3
    exact ⟨su, L, by rw [hR]; exact c1, c2, c3, c4, c5, fun j hj => by rw [hI su (by omega)]; exact c6 j hj, c7⟩
  · unfold flq at a4 ⊢
    rw [r22, r23, r24]
    exact a4
theorem UND.st (hI : ∀ q, sm + 11 ≤ q → cI M' q = cI M q) (hR : cR M' = cR M) (hA : ∀ k, 20 ≤ k → k ≤ 33 → mA S' k = mA S k) (hm : ∀ m, m ∈ mk → m ∈ mk') (h : UND K M S bn sm nu mk) : UND K M' S' bn sm nu mk' := by
  obtain ⟨cl, h⟩ := h
  have r20 := hA 20 (by decide) (by decide)
  have r21 := hA 21 (by decide) (by decide)
  have r22 := hA 22 (by decide) (by decide)
  have r23 := hA 23 (by decide) (by decide)
  have r24 := hA 24 (by decide) (by decide)
  have r32 := hA 32 (by decide) (by decide)
  have r33 := hA 33 (by decide) (by decide)
  have eb : ∀ u, blq S' bn cl u = blq S bn cl u := fun u => by unfold blq; rw [r20, r21, r22]
  have ec : ∀ u, clq S' bn cl u = clq S bn cl u := fun u => by unfold clq; rw [r20, r23, clr_ag r24]
  refine ⟨cl, fun u hu => ?_⟩
  obtain ⟨tu, cu, h1, h2, h3, h4, h5, h6, h7, h8, h9, h10, ⟨r0, c0, h11, h12, h13⟩, h14⟩ := h u hu
  have e1 := hI tu (by omega)
  have e2 := hI cu (by omega)
  refine ⟨tu, cu, by rw [hR]; exact h1, by rw [hR]; exact h2, h3, h4, h5, h6, by rw [e2]; exact h7, by rw [ec]; exact h8, by rw [r20]; exact h9, ⟨h10.1, by have q := h10.2; unfold RRO at q ⊢; rw [r23, r20, r24]; exact q⟩, ⟨r0, c0, by rw [e1, eb]; exact h11, by rw [r32]; exact h12, by rw [eb]; exact hm _ h13⟩, ?_⟩
  rw [e1, r33]
  rcases h14 with q | ⟨r1, c1, q1, q2, q3⟩
  · exact Or.inl q
  · exact Or.inr ⟨r1, c1, q1, q2, hm _ q3⟩
theorem PT.cst (h : PT z K M S size t a) (hI : ∀ q, q = z + 1 ∨ q = z + 3 ∨ q = z + 4 → cI M' q = cI M q) (h7 : ∀ s, s = 2 ∨ s = 3 → cI M' (z + 7) s = cI M (z + 7) s) (hL : cL M' (z + 5) = cL M (z + 5)) (hR : cR M' = cR M) : PT z K M' S size t a := by
  obtain ⟨h1, h2, h3, h4, h5, h6, hh7, h8⟩ := h
  refine ⟨?_, ?_, h3, h4, h5, by rw [h7 2 (Or.inl rfl)]; exact h6, by rw [h7 3 (Or.inr rfl), hI (z + 3) (Or.inr (Or.inl rfl))]; exact hh7, h8⟩
  · unfold LY at h1 ⊢
    rw [hR]
    exact h1
  · unfold TKS TK1 at h2 ⊢
    rw [hI (z + 1) (Or.inl rfl), hI (z + 3) (Or.inr (Or.inl rfl)), hI (z + 4) (Or.inr (Or.inr rfl)), hL]
    exact h2
theorem NRow.push {sl row base n : Nat} {x : Int64} {q : Nat} (h : NRow K M S sm sl row base n) (hq : cR M sm sl = some q) (hR : cR M' sm sl = some q) (hl : n < le K q) (hC : ∀ d, cL M' q d = if d = n then x else cL M q d) (hS : ∀ d, mL S' row d = if d = base + n then x else mL S row d) (hk : ∀ r, r < 25 → x ≠ kwT r) (hx : ∀ k, k < n → mL S row (base + k) ≠ x) : NRow K M' S' sm sl row base (n + 1) := by
  obtain ⟨q', h1, h2, h3, h4, h5, h6, h7⟩ := h
  have eq : q' = q := by rw [hq] at h1; cases h1; rfl
  subst eq
  refine ⟨q', hR, h2, by omega, h4, fun d hd => ?_, fun d hd r hr => ?_, fun d e hd he => ?_⟩
  · rw [hC, hS]
    by_cases w : d = n
    · rw [if_pos w, if_pos (by omega)]
    · rw [if_neg w, if_neg (by omega)]; exact h5 d (by omega)
  · rw [hS]
    by_cases w : d = n
    · rw [if_pos (by omega)]; exact hk r hr
    · rw [if_neg (by omega)]; exact h6 d (by omega) r hr
  · rw [hS, hS]
    by_cases w : d = n
    · by_cases w2 : e = n
      · omega
      · rw [if_pos (by omega), if_neg (by omega)]
        exact fun y => absurd y.symm (hx e (by omega))
    · by_cases w2 : e = n
      · rw [if_neg (by omega), if_pos (by omega)]
        exact fun y => absurd y (hx d (by omega))
      · rw [if_neg (by omega), if_neg (by omega)]
        exact h7 d e (by omega) (by omega)
theorem NRow.st {sl row base n : Nat} {q : Nat} (h : NRow K M S sm sl row base n) (hq : cR M sm sl = some q) (hR : cR M' sm sl = cR M sm sl) (hC : cL M' q = cL M q) (hS : mL S' row = mL S row) : NRow K M' S' sm sl row base n := by
  obtain ⟨q', h1, h2, h3, h4, h5, h6⟩ := h
  have eq : q' = q := by rw [hq] at h1; cases h1; rfl
  subst eq
  refine ⟨q', by rw [hR]; exact h1, h2, h3, h4, fun d hd => by rw [hC, hS]; exact h5 d hd, ?_⟩
  unfold NM1 at h6 ⊢
  rw [hS]
  exact h6
theorem DDs.pA' {f n : Nat} (hb : b = 0 ∨ b = 1) (hbn : bn = 1 - b) (h : DDs b bn n S f S') {k i w : Nat} (hw : bw k = w) (h0 : w ≠ 0) (h1 : w * bn ≤ i) (h2 : i < w * bn + w) (x : Int32) (hk : k < 20 ∨ 24 < k := by omega) : DDs b bn n S f (pA S' k i x) := by
  obtain ⟨d1, d2, d3, d4, r, d5, d6, d7⟩ := h
  exact ⟨d1, d2.tr (AgO.pA (ob_n hb hbn hw h0 h1 h2) _), d3, d4, r, d5, d6, fun k' k1 k2 => (mA_Ane _ _ _ (by omega)).trans (d7 k' k1 k2)⟩
theorem DDs.pL' {f n : Nat} (hb : b = 0 ∨ b = 1) (hbn : bn = 1 - b) (h : DDs b bn n S f S') {k i w : Nat} (hw : bw k = w) (h0 : w ≠ 0) (h1 : w * bn ≤ i) (h2 : i < w * bn + w) (x : Int64) : DDs b bn n S f (pL S' k i x) := by
  obtain ⟨d1, d2, d3, d4, d5⟩ := h
  exact ⟨d1, d2.tr (AgO.pL (ob_n hb hbn hw h0 h1 h2) _), d3, d4, d5⟩
theorem DDs.p49 {f n : Nat} (h : DDs b bn n S f S') (w : Int32) : DDs b bn n S f (pF S' 49 w) := by
  obtain ⟨h1, h2, h3, h4, h5⟩ := h
  exact ⟨h1, h2.tr (AgO.pF (by unfold OF; omega) _), h3, h4, h5⟩
theorem kR_ag {S S' : Ms} (h : mA S' 20 = mA S 20) (bn nu : Nat) : kR S' bn nu = kR S bn nu := by unfold kR; rw [h]
/-- a place marked where both stand -/
theorem CD.pos (h : CD bn sm nd nu M S mk (0, [], 0) rc cc a rv) : CD bn sm nd nu M S (pmk rc cc :: mk) (0, [], 0) rc cc a rv := by
  obtain ⟨pw, g, pi, J, c1, c2, c3, c4, c5, c6, c7⟩ := h
  refine ⟨List.pairwise_cons.mpr ⟨fun m _ => Or.inl rfl, pw⟩, g, pi, J, c1, c2, c3, fun m hm => ?_, fun i hi h28 => ?_, c6, c7⟩
  · rcases List.mem_cons.mp hm with q | q
    · subst q
      refine ⟨fun e => absurd rfl e, c1.1, fun _ => ⟨Nat.le_refl _, by show (J rc).1 = 0; rw [c3], by show (J rc).2.1 = []; rw [c3], Nat.zero_le _, fun k hk => ?_, fun k hk => absurd hk (Nat.not_lt_zero _), fun e => absurd e (show ¬ (0 : Nat) = 1 by decide)⟩⟩
      have := c1.mono rc (Nat.le_refl _) k hk
      rw [c1.1] at this
      exact this
    · exact c4 m q
  · obtain ⟨m, q1, q2⟩ := c5 i hi h28
    exact ⟨m, List.mem_cons_of_mem _ q1, q2⟩
end TOP
