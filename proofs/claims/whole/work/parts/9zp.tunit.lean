/-! a unit read by both -/
theorem kR_succ (S : Ms) (bn n : Nat) : kR S bn (n + 1) = kR S bn n + (if mA S 20 (24 * bn + n) = 0 then 1 else 0) := by
  unfold kR
  rw [List.range_succ, List.filter_append, List.length_append]
  congr 1
  by_cases h : mA S 20 (24 * bn + n) = 0
  · rw [if_pos h, List.filter_cons_of_pos (p := fun u => decide (mA S 20 (24 * bn + u) = 0)) (decide_eq_true h)]
    rfl
  · rw [if_neg h, List.filter_cons_of_neg (p := fun u => decide (mA S 20 (24 * bn + u) = 0)) (fun w => h (of_decide_eq_true w))]
    rfl
theorem kR_c {S S' : Ms} {bn : Nat} : ∀ n, (∀ u, u < n → mA S' 20 (24 * bn + u) = mA S 20 (24 * bn + u)) → kR S' bn n = kR S bn n := by
  intro n
  induction n with
  | zero => intro _; rfl
  | succ n ih => intro h; rw [kR_succ, kR_succ, ih (fun u hu => h u (by omega)), h n (by omega)]
theorem clr_am {S : Ms} {bn u : Nat} {cl : Nat → List Nat} {R : List Nat} (h : ∀ k, k < R.length → (mA S 24 (6 * (24 * bn + u) + k)).toNatClampNeg = R.getD k 0) (hn : ∀ r, r ∈ R → (cl r).Nodup) : ∀ k, k ≤ R.length → clr S bn cl u k = amR cl [] (R.take k) := by
  intro k
  induction k with
  | zero => intro _; rw [List.take_zero]; rfl
  | succ k ih =>
    intro hk
    have hk' : k < R.length := by omega
    have e1 : R.take (k + 1) = R.take k ++ [R.getD k 0] := by
      rw [List.take_succ, List.getElem?_eq_getElem hk', List.getD_eq_getElem?_getD, List.getElem?_eq_getElem hk']
      rfl
    have e2 : amR cl [] (R.take k ++ [R.getD k 0]) = amL (amR cl [] (R.take k)) (cl (R.getD k 0)) := by
      unfold amR
      rw [List.foldl_append]
      rfl
    rw [clr, ih (by omega), h k hk', e1, e2, amL_flt _ _ (hn _ (getD_mem hk'))]
theorem clr_c {S S' : Ms} {bn u : Nat} {cl cl' : Nat → List Nat} {nr : Nat} (h : ∀ k, k < nr → mA S' 24 (6 * (24 * bn + u) + k) = mA S 24 (6 * (24 * bn + u) + k)) (hc : ∀ k, k < nr → cl' (mA S 24 (6 * (24 * bn + u) + k)).toNatClampNeg = cl (mA S 24 (6 * (24 * bn + u) + k)).toNatClampNeg) : ∀ k, k ≤ nr → clr S' bn cl' u k = clr S bn cl u k := by
  intro k
  induction k with
  | zero => intro _; rfl
  | succ k ih => intro hk; rw [clr, clr, ih (by omega), h k (by omega), hc k (by omega)]
theorem FT.pre {α : Type} {z b : Nat} {K0 : Ka} {M M' : Cm} {S S' : Ms} {c : Option (α ⊕ (Ka × Cm))} {o : Option Ms} (h : FT z b K0 M' S' c o) (hM : AgA z K0 M M') (hS : AgO b S S') : FT z b K0 M S c o := by
  obtain ⟨f, K', M1, S1, h1, h2, h3, h4, h5, h6, h7, h8⟩ := h
  exact ⟨f, K', M1, S1, h1, h2, h3, hM.tr h4, h5, h6, h7, hS.tr h8⟩
section TUNIT
variable {N z b bn sm size t nd nu nm tu : Nat} {K0 K K2 : Ka} {M M4 M5 : Cm} {S S4 S5 : Ms} {a a' rc cc : Nat} {mk mk' : List Mk} {x : Int64} {x1 x2 bI : Int32} {R L1 L2 bl : List Nat} {fl Ls cl : Nat → List Nat}
theorem UNW.aga (w : UNW z bn sm nu tu K K2 M M4 S S4 cc rc x x1 x2 bI R L1 L2 bl) (hz : kz K0 ≤ sm ∧ sm + 11 ≤ tu) : AgA z K0 M M4 := by
  obtain ⟨-, ⟨c1, c2, c3, c4, c5, c6, c7, c8, c9, c10, c11, c12⟩, -⟩ := w
  exact ⟨fun q h1 h2 => ⟨c1 q h2 (by omega) (by omega) (by omega), c8 q (by omega) (by omega) (by omega)⟩, fun q s h1 _ => c11 q s (by omega) (by omega)⟩
theorem UNW.ago (w : UNW z bn sm nu tu K K2 M M4 S S4 cc rc x x1 x2 bI R L1 L2 bl) (hb : b = 0 ∨ b = 1) (hbn : bn = 1 - b) (hnu : nu < 24) : AgO b S S4 := by
  obtain ⟨-, -, -, -, f1, f2, f3, f4, -⟩ := w
  refine ⟨fun k hk => f1 k hk.1 (fun y => by unfold OF at hk; omega) (fun y => by unfold OF at hk; omega), fun k j hk => f2 k j (fun q => ?_) (fun q => ?_) (fun q => ?_), fun k j hk => ?_⟩
  · rcases q with ⟨q1, q2⟩ | ⟨q1, q2, q3⟩
    · have : bw k = 24 := by
        rcases q1 with ⟨y1, y2⟩ | y | y | y | y
        · have : k = 20 ∨ k = 21 ∨ k = 22 ∨ k = 23 := by omega
          rcases this with y | y | y | y <;> (subst y; rfl)
        all_goals (subst y; rfl)
      exact ob_n hb hbn this (by decide) (by omega) (by omega) hk
    · subst q1
      exact ob_n hb hbn (w := 144) rfl (by decide) (by omega) (by omega) hk
  · obtain ⟨q1, q2⟩ := q
    subst q1
    exact ob_n hb hbn (w := 1) rfl (by decide) (by omega) (by omega) hk
  · obtain ⟨q1, q2⟩ := q
    subst q1
    exact ob_n hb hbn (w := 24) rfl (by decide) (by omega) (by omega) hk
  · by_cases y : k = 19
    · subst y
      rw [f4, if_neg (fun w => ob_n hb hbn (w := 24) rfl (by decide) (by omega) (by omega) hk)]
    · rw [f3 k y]
/-- the starts of the units -/
theorem u_und (w : UNW z bn sm nu tu K K2 M M4 S S4 cc rc x x1 x2 bI R L1 L2 bl) (fu : FU z b sm tu (24 * bn + nu) K0 M4 M5 S4 S5) (up : ∀ u, u < nu → (∃ tu, UA K M S bn sm u tu ∧ UB M S bn u tu ∧ UC K M sm fl u tu) ∧ fl u = flq S bn fl u) (uc : ∀ u, u < nu → UND1 K M S bn sm cl mk u) (hz : z + 174 ≤ sm ∧ sm + 11 ≤ tu) (hnu : nu < 24) (hm : ∀ m, m ∈ umk rc (cc + bl.length + 1) bl :: mk → m ∈ mk') (h6 : R.length ≤ 6) (hR : ∀ r, r ∈ R → r < nu) (hR0 : ∀ r, r ∈ R → mA S 20 (24 * bn + r) = 0) (hx : x1 = 0 → bI = -1) (gB : bI = -1 ∨ ∃ v, v < nu ∧ bI = nI v)
    (h2 : L2 = amR cl [] R ++ (if x1 = 0 then [nu] else [])) (hbl : bl = (if x1 = 0 then [] else (if bI < 0 then [] else [bI.toNatClampNeg]) ++ L2.filter (fun y => decide (mA S 21 (24 * bn + y) ≠ 0)))) (l2n : L2.Nodup) (ln2 : L2.length ≤ 24) (hcl : (cI M5 tu 13 = cI M4 tu 13 ∧ mA S5 33 (24 * bn + nu) = mA S4 33 (24 * bn + nu)) ∨ ∃ r c, cI M5 tu 13 = nI c ∧ mA S5 33 (24 * bn + nu) = nI (10000 * bn + r) ∧ pmk r c ∈ mk') : UND K2 M5 S5 bn sm (nu + 1) mk' := by
  obtain ⟨⟨⟨kk, kt, k2⟩, kd8, krows, k8, k9⟩, ⟨c1, c2, c3, c4, c5, c6, c7, c8, c9, c10, c11, c12⟩, ⟨o0, o1, o6, o7', o8', o9, o12, o13, oR, oS, r10, r11, hA, hB⟩, wds, f1, f2, f3, f4, uh, f5, f6, f7, f8⟩ := id w
  obtain ⟨u1, u2, u3, u4, u5, u6, u7, u8, u9, u10, -⟩ := fu
  obtain ⟨h20, h21, h22, h23, h24, h25, h30, h31, h33⟩ := uh
  have s5 : ∀ k, 20 ≤ k ∧ k ≤ 24 ∨ k = 32 → mA S5 k = mA S4 k := fun k hk => u8 k (by omega) (by omega) (by omega) (by omega) (by omega)
  have cI5 : ∀ q, sm + 11 ≤ q → q < tu → cI M5 q = cI M q := fun q q1 q2 => (u1 q (by omega) (by omega) (by omega) (by omega) (by omega) (by omega)).trans (c1 q (by omega) (by omega) (by omega) q2)
  have row5 : ∀ k u, (20 ≤ k ∧ k ≤ 23 ∨ k = 32) → u < nu → mA S5 k (24 * bn + u) = mA S k (24 * bn + u) := fun k u hk hu => by rw [s5 k (by omega)]; exact w.row (by omega) (by omega) hu
  have nd : ∀ r, r < nu → (cl r).Nodup := fun r hr => by obtain ⟨t0, cu, v1, v2, v3, v4, v5, v6, v7, v8, v9, v10, -⟩ := uc r hr; exact v10.1
  refine ⟨flx cl nu L2, fun u hu => ?_⟩
  by_cases y : u = nu
  · subst y
    have e2 := flx_eq cl u L2
    have m20 : mA S5 20 (24 * bn + u) = x1 := by rw [s5 20 (by omega)]; exact h20
    have m22 : mA S5 22 (24 * bn + u) = bI := by rw [s5 22 (by omega)]; exact h22
    have ebl : blq S5 bn (flx cl u L2) u = bl := by
      unfold blq
      rw [m20, m22, e2, hbl]
      by_cases q : x1 = 0
      · rw [if_pos q, if_pos q]
      · rw [if_neg q, if_neg q]
        congr 1
        apply List.filter_congr
        intro v hv
        have : v < u := by
          rw [h2, if_neg q, List.append_nil] at hv
          rcases amR_mem cl v R [] hv with y | ⟨r, y1, y2⟩
          · exact absurd y (by simp)
          · obtain ⟨t0, cu, v1, v2, v3, v4, v5, v6, v7, v8, v9, -⟩ := uc r (hR r y1)
            have := (v9 v y2).1
            have := hR r y1
            omega
        rw [row5 21 v (by omega) this]
    refine ⟨tu, tu + 9, by rw [u4]; exact c12, by rw [u4]; exact r11, k9.1, by rw [e2]; exact k9.2, by rw [e2]; exact ln2, ⟨by omega, by omega, by omega, rfl⟩, fun j hj => ?_, ?_, fun v hv => ?_, ⟨by rw [e2]; exact l2n, fun k hk => ?_⟩, ⟨rc, cc + bl.length + 1, ?_, by rw [s5 32 (by omega)]; exact f5, by rw [ebl]; exact hm _ (List.mem_cons_self ..)⟩, ?_⟩
    · rw [e2] at hj ⊢
      rw [u1 _ (by omega) (by omega) (by omega) (by omega) (by omega) (by omega)]
      exact hB j hj
    · have m23 : mA S5 23 (24 * bn + u) = nI R.length := by rw [s5 23 (by omega)]; exact h23
      have e3 := clr_am (S := S5) (bn := bn) (u := u) (cl := flx cl u L2) (R := R) (fun k hk => by
        have := hR _ (getD_mem hk)
        rw [s5 24 (by omega), h24 k hk, nI_clamp (by omega)]) (fun r hr => by
        have := hR r hr
        rw [flx_ne _ _ _ (by omega)]; exact nd r this) R.length (Nat.le_refl _)
      have e4 : amR (flx cl u L2) [] R = amR cl [] R := by
        have : ∀ (R' L : List Nat), (∀ r, r ∈ R' → r < u) → amR (flx cl u L2) L R' = amR cl L R' := by
          intro R'
          induction R' with
          | nil => intro L _; rfl
          | cons r R' ih =>
            intro L hr
            have := hr r (List.mem_cons_self ..)
            rw [amR_cons, amR_cons, flx_ne _ _ _ (by omega)]
            exact ih _ (fun r' h' => hr r' (List.mem_cons_of_mem _ h'))
        exact this R [] hR
      rw [e2]
      unfold clq
      rw [m23, nI_clamp (show R.length < 2 ^ 31 by omega), m20, e3, List.take_length, e4]
      exact h2
    · rw [e2, h2] at hv
      rcases List.mem_append.mp hv with q | q
      · rcases amR_mem cl v R [] q with y | ⟨r, y1, y2⟩
        · exact absurd y (by simp)
        · obtain ⟨t0, cu, v1, v2, v3, v4, v5, v6, v7, v8, v9, -⟩ := uc r (hR r y1)
          have q1 := v9 v y2
          have := hR r y1
          exact ⟨by omega, by rw [row5 20 v (by omega) (by omega)]; exact q1.2⟩
      · by_cases q0 : x1 = 0
        · rw [if_pos q0, List.mem_singleton] at q
          rw [q]
          exact ⟨Nat.le_refl _, m20.trans q0⟩
        · rw [if_neg q0] at q
          exact absurd q (by simp)
    · rw [s5 23 (by omega), h23, nI_clamp (show R.length < 2 ^ 31 by omega)] at hk
      have q := hR _ (getD_mem hk)
      rw [s5 24 (by omega), h24 k hk, nI_clamp (by omega), row5 20 _ (by omega) q]
      exact hR0 _ (getD_mem hk)
    · rw [ebl, show cc + bl.length + 1 - (bl.length + 1) = cc by omega, u2 12 (by decide) (by decide) (by decide)]
      exact o12
    · rcases hcl with ⟨q1, q2⟩ | q
      · exact Or.inl ⟨q1.trans o13, q2.trans h33⟩
      · exact Or.inr q
  · have hu' : u < nu := by omega
    have e2 := flx_ne cl nu L2 y
    obtain ⟨t0, cu, v1, v2, v3, v4, v5, v6, v7, v8, v9, v10, ⟨r, c, v11, v12, v13⟩, v14⟩ := uc u hu'
    obtain ⟨⟨tw, a1, -⟩, -⟩ := up u hu'
    have et : tw = t0 := by have := a1.1; rw [v1] at this; cases this; rfl
    subst et
    obtain ⟨w1, w2, w3, w4, w5, w6, w7, w8, w9, w10, w11, nr, n6, n23, n24⟩ := a1
    have cR5 : ∀ q s, q < tu → ¬ (q = sm + 6 ∧ s = nu) → cR M5 q s = cR M q s := fun q s q1 q2 => by rw [u4]; exact c11 q s q1 q2
    have ecl : clq S5 bn (flx cl nu L2) u = clq S bn cl u := by
      unfold clq
      rw [row5 23 u (by omega) hu', row5 20 u (by omega) hu', n23, nI_clamp (show nr < 2 ^ 31 by omega), clr_c (S := S) (cl := cl) (nr := nr) (fun k hk => by rw [s5 24 (by omega)]; exact w.row24 hu' (by omega)) (fun k hk => by
        obtain ⟨r', r1, r2, -⟩ := n24 k hk
        rw [r2, nI_clamp (by omega)]
        exact flx_ne _ _ _ (by omega)) nr (Nat.le_refl _)]
    have ebl : blq S5 bn (flx cl nu L2) u = blq S bn cl u := by
      unfold blq
      rw [row5 20 u (by omega) hu', row5 22 u (by omega) hu', e2]
      congr 2
      apply List.filter_congr
      intro v hv
      have := (v9 v hv).1
      rw [row5 21 v (by omega) (by omega)]
    refine ⟨tw, cu, by rw [cR5 _ _ (by omega) (by omega)]; exact v1, by rw [cR5 _ _ (by omega) (by omega)]; exact v2, by rw [(kk.2 _ (by omega)).1]; exact v3, by rw [e2, (kk.2 _ (by omega)).2]; exact v4, by rw [e2]; exact v5, by omega, fun j hj => ?_, by rw [e2, ecl]; exact v8, fun v hv => ?_, ⟨by rw [e2]; exact v10.1, fun k hk => ?_⟩, ⟨r, c, by rw [ebl, cI5 tw (by omega) (by omega)]; exact v11, by rw [row5 32 u (by omega) hu']; exact v12, by rw [ebl]; exact hm _ (List.mem_cons_of_mem _ v13)⟩, ?_⟩
    · rw [e2] at hj ⊢
      rw [cI5 cu (by omega) (by omega)]
      exact v7 j hj
    · rw [e2] at hv
      have q := v9 v hv
      exact ⟨q.1, by rw [row5 20 v (by omega) (by omega)]; exact q.2⟩
    · rw [row5 23 u (by omega) hu', n23, nI_clamp (show nr < 2 ^ 31 by omega)] at hk
      obtain ⟨r', r1, r2, -⟩ := n24 k hk
      have q := v10.2 k (by rw [n23, nI_clamp (show nr < 2 ^ 31 by omega)]; exact hk)
      rw [s5 24 (by omega), w.row24 hu' (by omega)]
      rw [r2, nI_clamp (by omega)] at q ⊢
      rw [row5 20 r' (by omega) (by omega)]
      exact q
    · rw [cI5 tw (by omega) (by omega), u9 _ (by omega), w.row (k := 33) (by decide) (by decide) hu']
      rcases v14 with q | ⟨r1, c1', q1, q2, q3⟩
      · exact Or.inl q
      · exact Or.inr ⟨r1, c1', q1, q2, hm _ (List.mem_cons_of_mem _ q3)⟩
end TUNIT
