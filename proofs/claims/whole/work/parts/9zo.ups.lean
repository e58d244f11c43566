/-! the state in which a unit's body is read -/
theorem flatMap_c {f g : Nat → List Nat} : ∀ l : List Nat, (∀ k, k ∈ l → f k = g k) → l.flatMap f = l.flatMap g := by
  intro l
  induction l with
  | nil => intro _; rfl
  | cons x l ih =>
    intro h
    rw [List.flatMap_cons, List.flatMap_cons, h x (List.mem_cons_self ..), ih (fun k hk => h k (List.mem_cons_of_mem _ hk))]
theorem map_rng (R : List Nat) : (List.range R.length).map (fun k => R.getD k 0) = R := by
  apply List.ext_getElem?
  intro i
  rw [List.getElem?_map]
  by_cases h : i < R.length
  · rw [List.getElem?_range h, List.getElem?_eq_getElem h]
    show some (R.getD i 0) = _
    rw [List.getD_eq_getElem?_getD, List.getElem?_eq_getElem h]
    rfl
  · rw [List.getElem?_eq_none (by rw [List.length_range]; omega), List.getElem?_eq_none (by omega)]
    rfl
theorem rng_fm (R : List Nat) (f : Nat → List Nat) : (List.range R.length).flatMap (fun k => f (R.getD k 0)) = R.flatMap f := by
  have e := congrArg (fun l => List.flatMap f l) (map_rng R)
  rw [← e, List.flatMap_map]
def flx (fl : Nat → List Nat) (nu : Nat) (X : List Nat) (u : Nat) : List Nat := if u = nu then X else fl u
theorem flx_eq (fl : Nat → List Nat) (nu : Nat) (X : List Nat) : flx fl nu X nu = X := if_pos rfl
theorem flx_ne (fl : Nat → List Nat) (nu : Nat) (X : List Nat) {u : Nat} (h : u ≠ nu) : flx fl nu X u = fl u := if_neg h
section UPS
variable {N z b bn sm size t nd nu nm tu : Nat} {K0 K K2 : Ka} {M M4 : Cm} {S S4 : Ms} {a a' rc cc : Nat} {mk : List Mk} {x : Int64} {x1 x2 bI : Int32} {R L1 L2 bl : List Nat} {fl Ls cl : Nat → List Nat}
theorem UNW.row (w : UNW z bn sm nu tu K K2 M M4 S S4 cc rc x x1 x2 bI R L1 L2 bl) {k u : Nat} (hk : k ≠ 24) (h18 : k ≠ 18) (hu : u < nu) : mA S4 k (24 * bn + u) = mA S k (24 * bn + u) :=
  w.2.2.2.2.2.1 k _ (fun y => by rcases y with ⟨-, y⟩ | ⟨y, -⟩ <;> omega) (fun y => h18 y.1) (fun y => by omega)
theorem UNW.row24 (w : UNW z bn sm nu tu K K2 M M4 S S4 cc rc x x1 x2 bI R L1 L2 bl) {u k : Nat} (hu : u < nu) (hk : k < 6) : mA S4 24 (6 * (24 * bn + u) + k) = mA S 24 (6 * (24 * bn + u) + k) :=
  w.2.2.2.2.2.1 24 _ (fun y => by rcases y with ⟨y, -⟩ | ⟨-, y1, y2⟩ <;> omega) (fun y => by omega) (fun y => by omega)
theorem UNW.rows (w : UNW z bn sm nu tu K K2 M M4 S S4 cc rc x x1 x2 bI R L1 L2 bl) {k : Nat} (hk : ¬ (20 ≤ k ∧ k ≤ 25)) (h : k ≠ 18 ∧ k ≠ 30 ∧ k ≠ 31 ∧ k ≠ 32 ∧ k ≠ 33) : mA S4 k = mA S k :=
  funext (fun j => w.2.2.2.2.2.1 k j (fun y => by rcases y with ⟨y, -⟩ | ⟨y, -⟩ <;> omega) (fun y => by omega) (fun y => by omega))
theorem flq_ag (w : UNW z bn sm nu tu K K2 M M4 S S4 cc rc x x1 x2 bI R L1 L2 bl) {u : Nat} (hu : u < nu) {fl' : Nat → List Nat} (hf : ∀ v, v < nu → fl' v = fl v) (hb : mA S 22 (24 * bn + u) = -1 ∨ ∃ v, v < u ∧ mA S 22 (24 * bn + u) = nI v) {nr : Nat} (h6 : nr ≤ 6) (h23 : mA S 23 (24 * bn + u) = nI nr) (h24 : ∀ k, k < nr → ∃ r, r < u ∧ mA S 24 (6 * (24 * bn + u) + k) = nI r) (hu24 : u < 24) : flq S4 bn fl' u = flq S bn fl u := by
  unfold flq
  rw [w.row (k := 23) (by decide) (by decide) hu, w.row (k := 22) (by decide) (by decide) hu, h23, nI_clamp (show nr < 2 ^ 31 by omega)]
  congr 1
  congr 1
  · refine flatMap_c _ (fun k hk => ?_)
    have hk' := List.mem_range.mp hk
    obtain ⟨r, r1, r2⟩ := h24 k hk'
    rw [w.row24 hu (by omega), r2, nI_clamp (show r < 2 ^ 31 by omega)]
    exact hf r (by omega)
  · rcases hb with q | ⟨v, v1, v2⟩
    · rw [q, if_pos (by decide), if_pos (by decide)]
    · rw [v2, if_neg (nI_pos (by omega)), if_neg (nI_pos (by omega)), nI_clamp (show v < 2 ^ 31 by omega)]
      exact hf v (by omega)
theorem UNW.pu (w : UNW z bn sm nu tu K K2 M M4 S S4 cc rc x x1 x2 bI R L1 L2 bl) (us : USL K M sm nu fl Ls) (up : ∀ u, u < nu → (∃ tu, UA K M S bn sm u tu ∧ UB M S bn u tu ∧ UC K M sm fl u tu) ∧ fl u = flq S bn fl u) (pu : PU K M S bn sm nu) (hl : nu < le K (sm + 6) ∧ nu < le K (sm + 7)) (hz : z + 174 ≤ sm ∧ sm + 11 ≤ tu) (hnu : nu < 24) (gB : bI = -1 ∨ ∃ v, v < nu ∧ bI = nI v) (h6 : R.length ≤ 6) (hR : ∀ r, r ∈ R → r < nu) (hx1 : x1 = 0 ∨ x1 = 1) (hx2 : x2 = 0 ∨ x2 = 1)
    (hL : L1 = (if bI < 0 then amR Ls [nu] R else amL (amR Ls [nu] R) (Ls bI.toNatClampNeg))) (l1b : ∀ v, v ∈ L1 → v ≤ nu) (ln : L1.length ≤ 24) : PU K2 M4 S4 bn sm (nu + 1) := by
  obtain ⟨p1, p2, -⟩ := pu
  obtain ⟨⟨⟨kk, kt, k2⟩, kd8, krows, k8, k9⟩, ⟨c1, c2, c3, c4, c5, c6, c7, c8, c9, c10, c11, c12⟩, ⟨o0, o1, o6, o7', o8', o9, o12, o13, oR, oS, r10, r11, hA, hB⟩, wds, f1, f2, f3, f4, uh, f5, f6, f7, f8⟩ := id w
  have cI' : ∀ q, sm + 11 ≤ q → q < tu → cI M4 q = cI M q := fun q q1 q2 => c1 q (by omega) (by omega) (by omega) q2
  have cL' : ∀ q, sm + 11 ≤ q → q < tu → cL M4 q = cL M q := fun q q1 q2 => c8 q q2 (by omega) (by omega)
  have cR' : ∀ q, sm + 11 ≤ q → q < tu → cR M4 q = cR M q := fun q q1 q2 => funext (fun s => c11 q s q2 (by omega))
  have cR6 : ∀ u, u < nu → cR M4 (sm + 6) u = cR M (sm + 6) u := fun u hu => c11 _ _ (by omega) (by omega)
  have m27 := w.rows (k := 27) (by decide) (by decide)
  have m28 := w.rows (k := 28) (by decide) (by decide)
  have m29 := w.rows (k := 29) (by decide) (by decide)
  have l26 := f3 26 (by decide)
  refine ⟨⟨by rw [c11 sm 5 (by omega) (by omega)]; exact p1.1, by rw [(kk.2 _ (by omega)).1]; exact p1.2.1, by rw [(kk.2 _ (by omega)).2]; omega, by rw [(kk.2 _ (by omega)).2]; exact p1.2.2.2⟩, ⟨by rw [c11 sm 6 (by omega) (by omega)]; exact p2.1, by rw [(kk.2 _ (by omega)).1]; exact p2.2.1, by rw [(kk.2 _ (by omega)).2]; omega, by rw [(kk.2 _ (by omega)).2]; exact p2.2.2.2.1, fun u u' t0 t1 h1 h2 h3 h4 => ?_⟩, flx fl nu (nu :: ((R.flatMap fl) ++ (if bI < 0 then [] else fl bI.toNatClampNeg))), fun u hu => ?_⟩
  · have e3 : cR M (sm + 6) u = some t0 := by rw [← cR6 u (by omega)]; exact h3
    by_cases y : u' = nu
    · subst y
      obtain ⟨⟨tw, a1, -⟩, -⟩ := up u (by omega)
      have et : tw = t0 := by have := a1.1; rw [e3] at this; cases this; rfl
      rw [c12] at h4
      cases h4
      have := a1.2.1
      omega
    · exact p2.2.2.2.2 u u' t0 t1 h1 (by omega) e3 (by rw [← cR6 u' (by omega)]; exact h4)
  · by_cases y : u = nu
    · subst y
      have flN := flx_eq fl u (u :: ((R.flatMap fl) ++ (if bI < 0 then [] else fl bI.toNatClampNeg)))
      obtain ⟨h20, h21, h22, h23, h24, h25, h30, h31, h33⟩ := uh
      have lsf : ∀ r, r ∈ R → ∀ p : Nat → Bool, (Ls r).find? p = (fl r).find? p := fun r hr p => by
        obtain ⟨tw, su, w1, w2, w3, w4, w5, w6, w7, w8, w9⟩ := us r (hR r hr)
        exact w9 p
      refine ⟨⟨tu, ⟨c12, ⟨hz.2, by omega⟩, kd8, krows, by rw [h20]; exact o0, by rw [h20]; exact hx1, by rw [h21]; exact o1, by rw [h21]; exact hx2, by rw [h22]; exact o6, by rw [h23]; exact o7', by rw [h22]; exact gB, R.length, h6, h23, fun k hk => ⟨R.getD k 0, hR _ (getD_mem hk), h24 k hk, oR k hk⟩⟩, ⟨0, 0, by decide, Nat.le_refl _, o8', h25, o9, h31, h30, ⟨fun d hd => absurd hd (Nat.not_lt_zero _), fun d e hd => absurd hd (Nat.not_lt_zero _)⟩, fun s hs => absurd hs (Nat.not_lt_zero _), fun r hr => absurd hr (Nat.not_lt_zero _), fun s s' hs => absurd hs (Nat.not_lt_zero _), fun s _ => oS s⟩, tu + 8, L1, r10, k8.1, k8.2, ln, ⟨by omega, by omega, rfl⟩, hA, l1b, fun p => ?_⟩, ?_⟩
      · rw [flN, hL]
        have e1 := amR_find Ls fl p R [u] (fun r hr => lsf r hr p)
        rcases gB with q | ⟨v, v1, v2⟩
        · rw [q, if_pos (by decide), if_pos (by decide), List.append_nil, e1]
          rfl
        · obtain ⟨tw, su, w1, w2, w3, w4, w5, w6, w7, w8, w9⟩ := us v v1
          rw [v2, if_neg (nI_pos (by omega)), if_neg (nI_pos (by omega)), nI_clamp (show v < 2 ^ 31 by omega), amL_find, List.find?_append, e1, w9 p, ← List.find?_append]
          rfl
      · rw [flN]
        unfold flq
        rw [h23, nI_clamp (show R.length < 2 ^ 31 by omega), h22]
        congr 1
        congr 1
        · rw [← rng_fm R fl]
          refine flatMap_c _ (fun k hk => ?_)
          have hk' := List.mem_range.mp hk
          have := hR _ (getD_mem hk')
          rw [h24 k hk', nI_clamp (show R.getD k 0 < 2 ^ 31 by omega), flx_ne _ _ _ (by omega)]
        · rcases gB with q | ⟨v, v1, v2⟩
          · rw [q, if_pos (by decide), if_pos (by decide)]
          · rw [v2, if_neg (nI_pos (by omega)), if_neg (nI_pos (by omega)), nI_clamp (show v < 2 ^ 31 by omega), flx_ne _ _ _ (by omega)]
    · have hu' : u < nu := by omega
      obtain ⟨⟨tw, a1, a2, a3⟩, a4⟩ := up u hu'
      obtain ⟨v1, v2, v3, v4, v5, v6, v7, v8, v9, v10, v11, nr, n6, n23, n24⟩ := a1
      have e20 := w.row (k := 20) (by decide) (by decide) hu'
      have e21 := w.row (k := 21) (by decide) (by decide) hu'
      have e22 := w.row (k := 22) (by decide) (by decide) hu'
      have e23 := w.row (k := 23) (by decide) (by decide) hu'
      have e25 := w.row (k := 25) (by decide) (by decide) hu'
      have e30 := w.row (k := 30) (by decide) (by decide) hu'
      have e31 := w.row (k := 31) (by decide) (by decide) hu'
      refine ⟨⟨tw, ⟨by rw [cR6 u hu']; exact v1, by omega, by rw [(kk.2 _ (by omega)).1]; exact v3, fun sl kind len hm => ?_, by rw [e20, cI' tw (by omega) (by omega)]; exact v5, by rw [e20]; exact v6, by rw [e21, cI' tw (by omega) (by omega)]; exact v7, by rw [e21]; exact v8, by rw [e22, cI' tw (by omega) (by omega)]; exact v9, by rw [e23, cI' tw (by omega) (by omega)]; exact v10, by rw [e22]; exact v11, nr, n6, by rw [e23]; exact n23, fun k hk => ?_⟩, ?_, ?_⟩, ?_⟩
      · have hsl : sl = 2 ∨ sl = 3 ∨ sl = 4 ∨ sl = 5 := by
          simp only [List.mem_cons, List.not_mem_nil, or_false, Prod.mk.injEq] at hm
          omega
        obtain ⟨q1, q2, q3⟩ := v4 sl kind len hm
        exact ⟨by rw [cR' tw (by omega) (by omega)]; exact q1, by rw [(kk.2 _ (by omega)).1]; exact q2, by rw [(kk.2 _ (by omega)).2]; exact q3⟩
      · obtain ⟨r, q1, q2, q3⟩ := n24 k hk
        exact ⟨r, q1, by rw [w.row24 hu' (by omega)]; exact q2, by rw [cI' (tw + 1) (by omega) (by omega)]; exact q3⟩
      · unfold UB NM1 at a2 ⊢
        rw [e25, e30, e31, m27, m28, m29, l26, cI' tw (by omega) (by omega), cL' (tw + 2) (by omega) (by omega), cI' (tw + 3) (by omega) (by omega), cI' (tw + 4) (by omega) (by omega)]
        exact a2
      · obtain ⟨su, L, q1, q2, q3, q4, q5, q6, q7, q8⟩ := a3
        exact ⟨su, L, by rw [cR' tw (by omega) (by omega)]; exact q1, by rw [(kk.2 _ (by omega)).1]; exact q2, by rw [(kk.2 _ (by omega)).2]; exact q3, q4, by omega, fun j hj => by rw [cI' su (by omega) (by omega)]; exact q6 j hj, q7, fun p => by rw [flx_ne _ _ _ y]; exact q8 p⟩
      · rw [flx_ne _ _ _ y]
        exact a4.trans (flq_ag w hu' (fun v hv => flx_ne _ _ _ (by omega)) v11 n6 n23 (fun k hk => by obtain ⟨r, q1, q2, -⟩ := n24 k hk; exact ⟨r, q1, q2⟩) (by omega)).symm
/-- the instructions at a unit's start -/
theorem UNW.cd (w : UNW z bn sm nu tu K K2 M M4 S S4 cc rc x x1 x2 bI R L1 L2 bl) (dd : CD bn sm nd nu M S mk (0, [], 0) rc cc a 0) (hlast : (rc = 0 ∨ emk rc cc ∈ mk) ∧ ∀ m, m ∈ mk → m.1 < rc) (ha : a ≤ a') : CD bn sm nd (nu + 1) M4 S4 (umk rc (cc + bl.length + 1) bl :: mk) (0, [], 0) rc (cc + bl.length + 1) a' 0 := by
  obtain ⟨-, ⟨c1, c2, c3, c4, c5, c6, c7, c8, c9, c10, c11, c12⟩, -, ⟨d1, d2⟩, f1, -⟩ := id w
  obtain ⟨pw, g, pi, J, g1, g2, g3, g4, g5, g6, nl, e, l1, l2, l3, l4⟩ := dd
  have hs : ∀ i, i < rc → 10 ≤ (g i).1 → (g i).1 ≤ 13 → (g i).2.1 < rc := fun i hi h1 h2 => by
    obtain ⟨q1, q2, q3, q4⟩ := (g2 i hi).2.2.2.1 h1 h2
    by_cases y : (g i).2.1 = rc
    · rw [y, g3] at q4
      exact absurd q4 (Nat.not_lt_zero _)
    · omega
  have he : ∀ i, i + 1 = rc → (g i).1 = 0 := fun i hi => by
    rcases hlast.1 with y | y
    · omega
    · have q := ((g4 _ y).1 (by show (0 : Nat) ≠ 99; decide)).2.1
      have e1 : (emk rc cc).1 = i := by show rc - 1 = i; omega
      rw [e1] at q
      rw [q]; rfl
  have mono := g1.mono
  have lt : ∀ i, i < rc → pi i + tw (g i) ≤ cc := fun i hi => by rw [← g1.1]; exact mono rc (Nat.le_refl _) i hi
  have gap := g1.gap hs he (M' := M4) c10 (cc' := cc + bl.length + 1) (by omega) (fun j j1 j2 => by
    by_cases y : j = cc + bl.length
    · rw [y, d2]; exact NLw.wd (w := 8) (by decide) (by decide) _ _
    · have := d1 (j - cc) (by omega)
      rw [show cc + (j - cc) = j by omega] at this
      rw [this]; exact NLw.wd (w := 7) (by decide) (by decide) _ _)
  have m28 := w.rows (k := 28) (by decide) (by decide)
  have m29 := w.rows (k := 29) (by decide) (by decide)
  have m27 := w.rows (k := 27) (by decide) (by decide)
  refine ⟨List.pairwise_cons.mpr ⟨fun m _ => Or.inl rfl, pw⟩, g, (fun i => if i = rc then cc + bl.length + 1 else pi i), J, ?_, g2, g3, fun m hm => ?_, fun i hi h28 => ?_, fun i hi => ?_, nl, e, by rw [f1 48 (by decide) (by decide) (by decide)]; exact l1, fun k hk => ?_, l3, l4⟩
  · unfold CG at gap ⊢
    rw [w.rows (k := 39) (by decide) (by decide), w.rows (k := 40) (by decide) (by decide), w.rows (k := 41) (by decide) (by decide)]
    refine ⟨gap.1, fun i hi => ?_, gap.2.2⟩
    rw [cwd_ag (S' := S4) (S := S) (pi := fun i => if i = rc then cc + bl.length + 1 else pi i) (pi' := fun i => if i = rc then cc + bl.length + 1 else pi i) m28 m29 (fun _ _ => rfl)]
    exact gap.2.1 i hi
  · rcases List.mem_cons.mp hm with y | y
    · subst y
      refine ⟨fun q => absurd rfl q, if_pos rfl, fun _ => ⟨Nat.le_refl _, by show (J rc).1 = 0; rw [g3], by show (J rc).2.1 = []; rw [g3], ?_, fun k hk => ?_, fun k hk => ?_, fun _ => ?_⟩⟩
      · show bl.length + 1 ≤ cc + bl.length + 1
        omega
      · have hk' : k < rc := hk
        have := lt k hk'
        show (if k = rc then cc + bl.length + 1 else pi k) + tw (g k) + (bl.length + 1) ≤ cc + bl.length + 1
        rw [if_neg (by omega)]
        omega
      · show cL M4 (sm + 10) (cc + bl.length + 1 - (bl.length + 1) + k) = wd 7 (nI (bl.getD k 0)) 0
        rw [show cc + bl.length + 1 - (bl.length + 1) + k = cc + k by omega]
        exact d1 k hk
      · show cL M4 (sm + 10) (cc + bl.length + 1 - 1) = wd 8 0 0
        rw [show cc + bl.length + 1 - 1 = cc + bl.length by omega]
        exact d2
    · have hlt := hlast.2 m y
      obtain ⟨q1, q2, q3⟩ := g4 m y
      have hm1 := lt m.1 hlt
      have tp := (tw_pos (g m.1)).1
      refine ⟨q1, (if_neg (show ¬ m.1 = rc by omega)).trans q2, fun h99 => ?_⟩
      obtain ⟨s1, s2, s3, s4, s5, s6, s7⟩ := q3 h99
      refine ⟨s1, s2, s3, s4, fun k hk => ?_, fun k hk => ?_, fun h1 => ?_⟩
      · show (if k = rc then cc + bl.length + 1 else pi k) + tw (g k) + _ ≤ _
        rw [if_neg (by omega)]; exact s5 k hk
      · rw [c10 _ (by omega)]; exact s6 k hk
      · rw [c10 _ (by omega)]; exact s7 h1
  · obtain ⟨m, q1, q2⟩ := g5 i hi h28
    exact ⟨m, List.mem_cons_of_mem _ q1, q2⟩
  · obtain ⟨v1, v2, v3, v4, v5, v6, v7⟩ := g6 i hi
    refine ⟨v1, fun q => ?_, fun q => ?_, fun q => by have := v4 q; omega, v5, v6, fun q => ?_⟩
    · obtain ⟨s1, s2⟩ := v2 q
      refine ⟨by omega, ?_⟩
      unfold SLs at s2 ⊢
      rw [w.row (k := 25) (by decide) (by decide) s1, m27]
      exact s2
    · obtain ⟨s1, s2⟩ := v3 q
      refine ⟨by omega, ?_⟩
      unfold SLs at s2 ⊢
      rw [w.row (k := 25) (by decide) (by decide) s1, m27]
      exact s2
    · obtain ⟨s1, s2, s3, s4⟩ := v7 q
      rw [w.rows (k := 4) (by decide) (by decide)]
      exact ⟨s1, by omega, s3, s4⟩
  · have := l2 k hk
    unfold LTe R5 at this ⊢
    rw [w.rows (k := 43) (by decide) (by decide), w.rows (k := 44) (by decide) (by decide), w.rows (k := 45) (by decide) (by decide), w.rows (k := 46) (by decide) (by decide), w.rows (k := 47) (by decide) (by decide)]
    obtain ⟨w1, w2, w3⟩ := this
    exact ⟨w1, by omega, w3⟩
/-- the leans at a unit's start -/
theorem UNW.le (w : UNW z bn sm nu tu K K2 M M4 S S4 cc rc x x1 x2 bI R L1 L2 bl) (l : LE bn sm nu (fun _ _ => False) M S) (hR : ∀ r, r ∈ R → r < nu) (h6 : R.length ≤ 6) (hnu : nu < 24) : LE bn sm (nu + 1) (fun u' v => u' = nu ∧ LNx S4 (24 * bn + nu) v) M4 S4 := by
  obtain ⟨-, ⟨c1, c2, c3, c4, c5, c6, c7, c8, c9, c10, c11, c12⟩, -, -, f1, f2, f3, f4, uh, -⟩ := id w
  obtain ⟨h20, h21, h22, h23, h24, h25, h30, h31, h33⟩ := uh
  intro u v hu hv
  obtain ⟨l1, l2, l3⟩ := l u v hu hv
  rw [w.rows (k := 34) (by decide) (by decide)]
  refine ⟨?_, l2, fun y => l3 (by omega)⟩
  by_cases y : u = nu
  · subst y
    rw [c7 v hv, l1]
    have key : (v ∈ R ∨ bI = nI v) ↔ LNx S4 (24 * bn + u) v := by
      unfold LNx
      rw [h22, h23]
      constructor
      · rintro (q | q)
        · right
          obtain ⟨k, k1, k2⟩ := List.getElem_of_mem q
          refine ⟨k, R.length, rfl, h6, k1, ?_⟩
          rw [h24 k k1, List.getD_eq_getElem?_getD, List.getElem?_eq_getElem k1, k2]
          rfl
        · exact Or.inl q
      · rintro (q | ⟨k, nr, q1, q2, q3, q4⟩)
        · exact Or.inr q
        · left
          have er : R.length = nr := (nI_eq (by omega) (by omega)).mp q1
          have k1 : k < R.length := by omega
          have := hR _ (getD_mem k1)
          rw [h24 k k1] at q4
          rw [← (nI_eq (by omega) (by omega)).mp q4]
          exact getD_mem k1
    constructor
    · rintro ((q | q) | q)
      · exact Or.inl q
      · exact q.elim
      · exact Or.inr ⟨rfl, key.mp q⟩
    · rintro (q | ⟨-, q⟩)
      · exact Or.inl (Or.inl q)
      · exact Or.inr (key.mpr q)
  · rw [c6 u y]
    refine l1.trans ⟨fun q => q.elim Or.inl (fun q => q.elim), fun q => q.elim Or.inl (fun q => absurd q.1 y)⟩
end UPS
