/-! the class settles what waited -/
def lte (x : Nat × Nat × Nat) : Prop := 25 ≤ x.1 ∧ x.1 ≤ 27
theorem NLw.ite {c : Prop} [Decidable c] {a b : Int64} (h1 : c → NLw a) (h2 : ¬ c → NLw b) : NLw (if c then a else b) := by
  by_cases q : c
  · rw [if_pos q]; exact h1 q
  · rw [if_neg q]; exact h2 q
theorem NLw_cwd (bn : Nat) (S : Ms) (pi : Nat → Nat) {x : Nat × Nat × Nat} (h : ¬ lte x) : NLw (cwd bn S pi x) := by
  have k : ∀ (w : Nat) (f s : Int32), w < 256 → w ≠ 21 ∧ w ≠ 22 ∧ w ≠ 23 → NLw (wd (nI w) f s) := fun w f s h1 h2 => NLw.wd h1 h2 f s
  unfold cwd
  refine NLw.ite (fun _ => k 20 _ _ (by decide) (by decide)) (fun _ => ?_)
  refine NLw.ite (fun _ => k 1 _ _ (by decide) (by decide)) (fun _ => ?_)
  refine NLw.ite (fun _ => k 2 _ _ (by decide) (by decide)) (fun _ => ?_)
  refine NLw.ite (fun _ => k 3 _ _ (by decide) (by decide)) (fun _ => ?_)
  refine NLw.ite (fun _ => k 4 _ _ (by decide) (by decide)) (fun _ => ?_)
  refine NLw.ite (fun _ => k 5 _ _ (by decide) (by decide)) (fun _ => ?_)
  refine NLw.ite (fun _ => k 6 _ _ (by decide) (by decide)) (fun _ => ?_)
  refine NLw.ite (fun _ => k 13 _ _ (by decide) (by decide)) (fun _ => ?_)
  refine NLw.ite (fun _ => k 14 _ _ (by decide) (by decide)) (fun _ => ?_)
  refine NLw.ite (fun _ => k 15 _ _ (by decide) (by decide)) (fun _ => ?_)
  refine NLw.ite (fun _ => k 16 _ _ (by decide) (by decide)) (fun _ => ?_)
  refine NLw.ite (fun _ => k 17 _ _ (by decide) (by decide)) (fun _ => ?_)
  refine NLw.ite (fun _ => k 18 _ _ (by decide) (by decide)) (fun _ => ?_)
  refine NLw.ite (fun _ => k 19 _ _ (by decide) (by decide)) (fun _ => ?_)
  refine NLw.ite (fun _ => k 10 _ _ (by decide) (by decide)) (fun _ => ?_)
  refine NLw.ite (fun _ => k 11 _ _ (by decide) (by decide)) (fun _ => ?_)
  refine NLw.ite (fun _ => k 12 _ _ (by decide) (by decide)) (fun _ => ?_)
  refine NLw.ite (fun _ => k 9 _ _ (by decide) (by decide)) (fun _ => ?_)
  refine NLw.ite (fun _ => k 42 _ _ (by decide) (by decide)) (fun _ => ?_)
  refine NLw.ite (fun _ => k 47 _ _ (by decide) (by decide)) (fun _ => ?_)
  refine NLw.ite (fun _ => k 37 _ _ (by decide) (by decide)) (fun _ => ?_)
  refine NLw.ite (fun _ => k 43 _ _ (by decide) (by decide)) (fun _ => ?_)
  refine NLw.ite (fun _ => k 45 _ _ (by decide) (by decide)) (fun _ => ?_)
  refine NLw.ite (fun _ => k 60 _ _ (by decide) (by decide)) (fun _ => ?_)
  refine NLw.ite (fun _ => k 61 _ _ (by decide) (by decide)) (fun _ => ?_)
  refine NLw.ite (fun q => absurd (show lte x from ⟨by omega, by omega⟩) h) (fun _ => ?_)
  refine NLw.ite (fun q => absurd (show lte x from ⟨by omega, by omega⟩) h) (fun _ => ?_)
  refine NLw.ite (fun q => absurd (show lte x from ⟨by omega, by omega⟩) h) (fun _ => ?_)
  refine NLw.ite (fun _ => k 17 _ _ (by decide) (by decide)) (fun _ => ?_)
  refine NLw.ite (fun _ => k 16 _ _ (by decide) (by decide)) (fun _ => ?_)
  refine NLw.ite (fun _ => k 18 _ _ (by decide) (by decide)) (fun _ => ?_)
  exact k 19 _ _ (by decide) (by decide)
/-- how far the class is: i words looked at; the least wrong token W so far, its kind D (0: none) -/
def STI (bn sm rc : Nat) (M : Cm) (S : Ms) (g : Nat → Nat × Nat × Nat) (pi : Nat → Nat) (OKc : Nat → Prop) (Y : Nat → Nat × Nat × Nat) (U : Nat → Nat) (KT : Nat → Nat × Nat) (t i : Nat) (M' : Cm) (W D : Nat) : Prop :=
  CF sm M M' ∧ (∀ c, c < rc → lte (g c) → OKc c → cL M' (sm + 10) (pi c) = if pi c < i then cw bn S (Y c) else cw bn S (g c)) ∧ (∀ c, c < rc → lte (g c) → ¬ OKc c → cL M' (sm + 10) (pi c) = cw bn S (g c)) ∧ (∀ j, (∀ c, c < rc → lte (g c) → j ≠ pi c) → cL M' (sm + 10) j = cL M (sm + 10) j) ∧
  ((∀ c, c < rc → lte (g c) → OKc c) → ∀ u v, u < 24 → v < 24 → (bt (cI M' (sm + 7) u) v = true ↔ bt (cI M (sm + 7) u) v = true ∨ ∃ c, c < rc ∧ lte (g c) ∧ pi c < i ∧ (g c).2.2 = u + 1 ∧ U c = v)) ∧
  ((D = 0 ∧ W = t + 1 ∧ ∀ c, c < rc → lte (g c) → ¬ OKc c → i ≤ pi c) ∨ ∃ c0, c0 < rc ∧ lte (g c0) ∧ ¬ OKc c0 ∧ W = (KT c0).2 ∧ D = (KT c0).1 ∧ ∀ c, c < rc → lte (g c) → ¬ OKc c → pi c < i → W ≤ (KT c).2)
section SETTLE
variable {N z b bn sm size t nd nu nm a rc cc cf : Nat} {K0 K : Ka} {M : Cm} {S : Ms} {g : Nat → Nat × Nat × Nat} {pi : Nat → Nat} {OKc : Nat → Prop} {Y : Nat → Nat × Nat × Nat} {U : Nat → Nat} {KT : Nat → Nat × Nat}
theorem CG.inj (h : CG bn cf sm M S g pi rc cc) {c c' : Nat} (h1 : c < rc) (h2 : c' < rc) (e : pi c = pi c') : c = c' := by
  rcases Nat.lt_trichotomy c c' with q | q | q
  · have := h.mono c' (by omega) c q; have := (tw_pos (g c)).1; omega
  · exact q
  · have := h.mono c (by omega) c' q; have := (tw_pos (g c')).1; omega
theorem leanC_bt {M' : Cm} {i1 u : Nat} (hu : u < 24) {u' v : Nat} (hv : v < 24) : bt (cI (leanC sm M' i1 u) (sm + 7) u') v = true ↔ bt (cI M' (sm + 7) u') v = true ∨ (i1 = u' + 1 ∧ u = v) := by
  unfold leanC
  by_cases q : i1 = 0
  · rw [if_pos q]
    exact ⟨Or.inl, fun y => y.elim id (fun y => by omega)⟩
  · rw [if_neg q, cI_w]
    by_cases y : u' = i1 - 1
    · rw [if_pos ⟨rfl, y⟩, bit_set (by omega) (by omega), ← y, Bool.or_eq_true, decide_eq_true_eq]
      exact ⟨fun w => w.elim Or.inl (fun w => Or.inr ⟨by omega, w.symm⟩), fun w => w.elim Or.inl (fun w => Or.inr w.2.symm)⟩
    · rw [if_neg (fun w => y w.2)]
      exact ⟨Or.inl, fun w => w.elim id (fun w => by omega)⟩
theorem st_lp (hCG : CG bn cf sm M S g pi rc cc) (k7 : kd K (z + 7) = 4) (c : CR z K M sm cc) (hz : z + 174 ≤ sm) (hN : 30 < N) (hcc : cc < 2 ^ 31) (ht4 : t ≤ 4000) (hnu : nu ≤ 24)
    (hOK : ∀ c, c < rc → lte (g c) → OKc c → LOK N z b bn sm nd nu cc K M S (g c) (Y c) (U c)) (hBAD : ∀ c, c < rc → lte (g c) → ¬ OKc c → LBAD N z b bn sm cc K M S (g c) (KT c).1 (KT c).2) (hTK : ∀ c, c < rc → lte (g c) → ¬ OKc c → (KT c).2 < t) :
    ∀ (n i : Nat) (M' : Cm) (W D : Nat), i ≤ cc → cc < n + i → STI bn sm rc M S g pi OKc Y U KT t i M' W D → W ≤ t + 1 →
    ∃ M'' W' D', lT_X3_settle_12 N (bT_X3_settle_102 N) n (z + 7) (nI W) (nI D) (nI i) K M' = bT_X3_settle_102 N (z + 7) (nI W') (nI D') K M'' ∧ STI bn sm rc M S g pi OKc Y U KT t cc M'' W' D' ∧ W' ≤ t + 1 := by
  obtain ⟨-, -, c3, c4, c5, c6, c7, c8, c9⟩ := c
  intro n
  induction n with
  | zero => intro i M' W D h1 h2; omega
  | succ n ih =>
    intro i M' W D h1 h2 h hW
    obtain ⟨h3, h4, h5, h6, h7, h8⟩ := id h
    have q3 : cR M' (z + 7) 1 = some sm := by rw [h3.2.2]; exact c3
    have q5 : cR M' sm 9 = some (sm + 10) := by rw [h3.2.2]; exact c5
    have q13 : cI M' sm 13 = nI cc := by rw [h3.1 sm (by omega)]; exact c8
    rw [lT_X3_settle_12, gd_k k7, nn_s q3, gd_k c4, q13]
    by_cases hi : i < cc
    · rw [if_neg (nI_ge hi hcc), nn_s q3, gd_k c4, nn_s q5, gd_k c6, ck_n (show i < le K (sm + 10) by omega) c7, nI_clamp (show i < 2 ^ 31 by omega)]
      by_cases hl : ∃ c, c < rc ∧ lte (g c) ∧ i = pi c
      · obtain ⟨c, l1, l2, l3⟩ := hl
        have hw : cL M' (sm + 10) i = cw bn S (g c) := by
          rw [l3]
          by_cases ok : OKc c
          · rw [h4 c l1 l2 ok, if_neg (by omega)]
          · exact h5 c l1 l2 ok
        have op : (cL M' (sm + 10) i).toInt32 &&& 255 = nI ((g c).1 - 4) := by
          have e := cw_late bn S (o := (g c).1) (tok := (g c).2.1) (i := (g c).2.2) l2
          have e' : cw bn S (g c) = wd (nI ((g c).1 - 4)) (nI (g c).2.1) (nI (g c).2.2 - 1) := e
          rw [hw, e', wd_what (by have := l2.2; omega)]
        have to60 : ∀ (X Z : Option ((Ka × Cm) ⊕ (Ka × Cm))), (if nI ((g c).1 - 4) = 21 then X else if nI ((g c).1 - 4) = 22 then X else if nI ((g c).1 - 4) = 23 then X else Z) = X := fun X Z => by
          have := l2.1
          have := l2.2
          have : (g c).1 = 25 ∨ (g c).1 = 26 ∨ (g c).1 = 27 := by omega
          rcases this with y | y | y
          · rw [y, if_pos (show nI (25 - 4) = 21 from rfl)]
          · rw [y, if_neg (show ¬ nI (26 - 4) = 21 by decide), if_pos (show nI (26 - 4) = 22 from rfl)]
          · rw [y, if_neg (show ¬ nI (27 - 4) = 21 by decide), if_neg (show ¬ nI (27 - 4) = 22 by decide), if_pos (show nI (27 - 4) = 23 from rfl)]
        rw [op, to60]
        unfold bT_X3_settle_60
        rw [gd_k k7]
        by_cases ok : OKc c
        · obtain ⟨k1, k2, k3, k4, k5⟩ := hOK c l1 l2 ok
          rw [k4 M' i h3 hi hw, bs, gd_t (by decide)]
          dsimp only
          rw [if_pos (by decide)]
          unfold bT_X3_settle_96
          rw [nI_1]
          have f2 : CF sm M (wL (leanC sm M' (g c).2.2 (U c)) (sm + 10) i (cw bn S (Y c))) := (h3.tr (leanC_f (g c).2.2 (U c))).tr ⟨fun _ _ => rfl, fun q hq => cL_wL_ne _ _ _ hq, rfl⟩
          have eL : ∀ j, cL (wL (leanC sm M' (g c).2.2 (U c)) (sm + 10) i (cw bn S (Y c))) (sm + 10) j = if j = i then cw bn S (Y c) else cL M' (sm + 10) j := fun j => by
            have e0 : cL (leanC sm M' (g c).2.2 (U c)) = cL M' := by unfold leanC; split <;> rfl
            rw [cL_w, e0]
            by_cases y : j = i
            · rw [if_pos ⟨rfl, y⟩, if_pos y]
            · rw [if_neg (fun w => y w.2), if_neg y]
          refine ih (i + 1) _ W D (by omega) (by omega) ⟨f2, fun c' a1 a2 a3 => ?_, fun c' a1 a2 a3 => ?_, fun j hj => ?_, fun hall u v hu hv => ?_, ?_⟩ hW
          · rw [eL]
            by_cases y : pi c' = i
            · have ec : c' = c := hCG.inj a1 l1 (by omega)
              subst ec
              rw [if_pos y, if_pos (by omega)]
            · rw [if_neg y, h4 c' a1 a2 a3]
              by_cases w : pi c' < i
              · rw [if_pos w, if_pos (by omega)]
              · rw [if_neg w, if_neg (by omega)]
          · rw [eL, if_neg (fun y => by
              have ec : c' = c := hCG.inj a1 l1 (by omega)
              rw [ec] at a3
              exact a3 ok)]
            exact h5 c' a1 a2 a3
          · rw [eL, if_neg (fun y => hj c l1 l2 (by omega))]
            exact h6 j hj
          · have e7 := h7 hall u v hu hv
            have el : cI (wL (leanC sm M' (g c).2.2 (U c)) (sm + 10) i (cw bn S (Y c))) = cI (leanC sm M' (g c).2.2 (U c)) := rfl
            rw [el, leanC_bt (by omega) hv, e7]
            constructor
            · rintro ((y | ⟨c', y1, y2, y3, y4⟩) | ⟨y1, y2⟩)
              · exact Or.inl y
              · exact Or.inr ⟨c', y1, y2, by omega, y4⟩
              · exact Or.inr ⟨c, l1, l2, by omega, y1, y2⟩
            · rintro (y | ⟨c', y1, y2, y3, y4, y5⟩)
              · exact Or.inl (Or.inl y)
              · by_cases w : pi c' = i
                · have ec : c' = c := hCG.inj y1 l1 (by omega)
                  subst ec
                  exact Or.inr ⟨y4, y5⟩
                · exact Or.inl (Or.inr ⟨c', y1, y2, by omega, y4, y5⟩)
          · rcases h8 with ⟨d1, d2, d3⟩ | ⟨c0, d1, d2, d3, d4, d5, d6⟩
            · refine Or.inl ⟨d1, d2, fun c' a1 a2 a3 => ?_⟩
              have := d3 c' a1 a2 a3
              by_cases y : pi c' = i
              · have ec : c' = c := hCG.inj a1 l1 (by omega)
                rw [ec] at a3
                exact absurd ok a3
              · omega
            · refine Or.inr ⟨c0, d1, d2, d3, d4, d5, fun c' a1 a2 a3 a4 => ?_⟩
              by_cases y : pi c' = i
              · have ec : c' = c := hCG.inj a1 l1 (by omega)
                rw [ec] at a3
                exact absurd ok a3
              · exact d6 c' a1 a2 a3 (by omega)
        · obtain ⟨k1, k2, k3, k4, k5⟩ := hBAD c l1 l2 ok
          have tk := hTK c l1 l2 ok
          obtain ⟨M1, m1, m2, m3⟩ := k4 M' i h3 hi hw
          have k16 : (KT c).1 < 16 ∧ 1 ≤ (KT c).1 := by rcases k1 with y | y <;> omega
          have dv : nI ((KT c).1 + 16 * (KT c).2) / 16 = nI (KT c).2 := by
            rw [show (16 : Int32) = nI 16 from rfl, nI_div (by decide) (by omega) (by decide)]
            congr 1
            omega
          have md : nI ((KT c).1 + 16 * (KT c).2) - nI ((KT c).1 + 16 * (KT c).2) / 16 * 16 = nI (KT c).1 := by
            rw [dv, show (16 : Int32) = nI 16 from rfl, nI_mul, nI_sub (by omega) (by omega)]
            congr 1
            omega
          rw [m1, bs, gd_t (by decide)]
          dsimp only
          rw [if_neg (show ¬ nI ((KT c).1 + 16 * (KT c).2) ≤ 0 from nI_ge (a := 0) (by omega) (by omega)), md, dv]
          have f2 := h3.tr m2
          have base : ∀ W' D', ((D' = 0 ∧ W' = t + 1 ∧ ∀ c, c < rc → lte (g c) → ¬ OKc c → i + 1 ≤ pi c) ∨ ∃ c0, c0 < rc ∧ lte (g c0) ∧ ¬ OKc c0 ∧ W' = (KT c0).2 ∧ D' = (KT c0).1 ∧ ∀ c, c < rc → lte (g c) → ¬ OKc c → pi c < i + 1 → W' ≤ (KT c).2) → STI bn sm rc M S g pi OKc Y U KT t (i + 1) M1 W' D' := fun W' D' hh => by
            refine ⟨f2, fun c' a1 a2 a3 => ?_, fun c' a1 a2 a3 => by rw [m3]; exact h5 c' a1 a2 a3, fun j hj => by rw [m3]; exact h6 j hj, fun hall => absurd (hall c l1 l2) ok, hh⟩
            rw [m3, h4 c' a1 a2 a3]
            by_cases y : pi c' = i
            · have ec : c' = c := hCG.inj a1 l1 (by omega)
              rw [ec] at a3
              exact absurd a3 ok
            · by_cases w : pi c' < i
              · rw [if_pos w, if_pos (by omega)]
              · rw [if_neg w, if_neg (by omega)]
          have only : ∀ c', c' < rc → pi c' = i → c' = c := fun c' a1 y => hCG.inj a1 l1 (by omega)
          by_cases hle : W ≤ (KT c).2
          · rw [if_pos (nI_le hle (by omega))]
            unfold bT_X3_settle_96
            rw [nI_1]
            refine ih (i + 1) M1 W D (by omega) (by omega) (base W D ?_) hW
            rcases h8 with ⟨d1, d2, d3⟩ | ⟨c0, d1, d2, d3, d4, d5, d6⟩
            · omega
            · refine Or.inr ⟨c0, d1, d2, d3, d4, d5, fun c' a1 a2 a3 a4 => ?_⟩
              by_cases y : pi c' = i
              · rw [only c' a1 y]; exact hle
              · exact d6 c' a1 a2 a3 (by omega)
          · rw [if_neg (nI_ge (by omega) (by omega)), gd_t (by decide)]
            unfold bT_X3_settle_96
            rw [nI_1]
            refine ih (i + 1) M1 (KT c).2 (KT c).1 (by omega) (by omega) (base _ _ (Or.inr ⟨c, l1, l2, ok, rfl, rfl, fun c' a1 a2 a3 a4 => ?_⟩)) (by omega)
            by_cases y : pi c' = i
            · rw [only c' a1 y]; exact Nat.le_refl _
            · rcases h8 with ⟨d1, d2, d3⟩ | ⟨c0, d1, d2, d3, d4, d5, d6⟩
              · have := d3 c' a1 a2 a3; omega
              · have := d6 c' a1 a2 a3 (by omega); omega
      · -- none that waits
        have nn' : ∀ c, c < rc → lte (g c) → i ≠ pi c := fun c a1 a2 a3 => hl ⟨c, a1, a2, a3⟩
        have hw := h6 i nn'
        have nl : NLw (cL M' (sm + 10) i) := by
          rw [hw]
          rcases hCG.2.2.2.2.2.2.2 i hi with ⟨c, l1, l2⟩ | y
          · rw [l2, (hCG.2.1 c l1).1]
            exact NLw_cwd bn S pi (fun w => nn' c l1 w l2)
          · exact y
        rw [if_neg nl.1, if_neg nl.2.1, if_neg nl.2.2]
        unfold bT_X3_settle_96
        rw [nI_1]
        refine ih (i + 1) M' W D (by omega) (by omega) ⟨h3, fun c' a1 a2 a3 => ?_, h5, h6, fun hall u v hu hv => ?_, ?_⟩ hW
        · rw [h4 c' a1 a2 a3]
          have := nn' c' a1 a2
          by_cases w : pi c' < i
          · rw [if_pos w, if_pos (by omega)]
          · rw [if_neg w, if_neg (by omega)]
        · rw [h7 hall u v hu hv]
          constructor
          · rintro (y | ⟨c', y1, y2, y3, y4⟩)
            · exact Or.inl y
            · exact Or.inr ⟨c', y1, y2, by omega, y4⟩
          · rintro (y | ⟨c', y1, y2, y3, y4⟩)
            · exact Or.inl y
            · have := nn' c' y1 y2
              exact Or.inr ⟨c', y1, y2, by omega, y4⟩
        · rcases h8 with ⟨d1, d2, d3⟩ | ⟨c0, d1, d2, d3, d4, d5, d6⟩
          · refine Or.inl ⟨d1, d2, fun c' a1 a2 a3 => ?_⟩
            have := d3 c' a1 a2 a3
            have := nn' c' a1 a2
            omega
          · refine Or.inr ⟨c0, d1, d2, d3, d4, d5, fun c' a1 a2 a3 a4 => ?_⟩
            have := nn' c' a1 a2
            exact d6 c' a1 a2 a3 (by omega)
    · have ei : i = cc := by omega
      subst ei
      rw [if_pos (nI_le (Nat.le_refl _) hcc)]
      exact ⟨M', W, D, rfl, h, hW⟩
end SETTLE
