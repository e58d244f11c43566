/-! the state of both while statements are read -/
def FR (z b sm : Nat) (K0 : Ka) (M M' : Cm) (S S' : Ms) : Prop :=
  (∀ a, a ≠ z + 7 → a ≠ sm → a ≠ sm + 7 → cI M' a = cI M a) ∧ (∀ a, a ≠ sm + 10 → cL M' a = cL M a) ∧ cR M' = cR M ∧ (∀ s, s ≠ 2 → s ≠ 3 → cI M' (z + 7) s = cI M (z + 7) s) ∧ (∀ s, s ≠ 13 → cI M' sm s = cI M sm s) ∧
  (∀ k, k ≠ 7 → k ≠ 38 → k ≠ 48 → k ≠ 50 → k ≠ 51 → k ≠ 52 → mF S' k = mF S k) ∧ (∀ k, k ≠ 34 → ¬ (39 ≤ k ∧ k ≤ 47) → k ≠ 53 → mA S' k = mA S k) ∧ mL S' = mL S ∧ AgA z K0 M M' ∧ AgO b S S'
theorem FR.rf (z b sm : Nat) (K0 : Ka) (M : Cm) (S : Ms) : FR z b sm K0 M M S S := ⟨fun _ _ _ _ => rfl, fun _ _ => rfl, rfl, fun _ _ _ => rfl, fun _ _ => rfl, fun _ _ _ _ _ _ _ => rfl, fun _ _ _ _ => rfl, rfl, AgA.rf _ _ _, AgO.rf _ _⟩
theorem FR.tr {z b sm : Nat} {K0 : Ka} {M M' M'' : Cm} {S S' S'' : Ms} (h : FR z b sm K0 M M' S S') (q : FR z b sm K0 M' M'' S' S'') : FR z b sm K0 M M'' S S'' :=
  ⟨fun a h1 h2 h3 => (q.1 a h1 h2 h3).trans (h.1 a h1 h2 h3), fun a h1 => (q.2.1 a h1).trans (h.2.1 a h1), q.2.2.1.trans h.2.2.1, fun s h1 h2 => (q.2.2.2.1 s h1 h2).trans (h.2.2.2.1 s h1 h2), fun s h1 => (q.2.2.2.2.1 s h1).trans (h.2.2.2.2.1 s h1), fun k h1 h2 h3 h4 h5 h6 => (q.2.2.2.2.2.1 k h1 h2 h3 h4 h5 h6).trans (h.2.2.2.2.2.1 k h1 h2 h3 h4 h5 h6), fun k h1 h2 h3 => (q.2.2.2.2.2.2.1 k h1 h2 h3).trans (h.2.2.2.2.2.2.1 k h1 h2 h3), q.2.2.2.2.2.2.2.1.trans h.2.2.2.2.2.2.2.1, h.2.2.2.2.2.2.2.2.1.tr q.2.2.2.2.2.2.2.2.1, h.2.2.2.2.2.2.2.2.2.tr q.2.2.2.2.2.2.2.2.2⟩
/-- a unit's head -/
def UA (K : Ka) (M : Cm) (S : Ms) (bn sm u tu : Nat) : Prop :=
  cR M (sm + 6) u = some tu ∧ (sm + 11 ≤ tu ∧ tu + 10 ≤ kz K) ∧ kd K tu = 8 ∧ (∀ sl kind len, (sl, kind, len) ∈ ([(2, 22, 6), (3, 23, 8), (4, 22, 8), (5, 24, 8)] : List (Nat × Nat × Nat)) → cR M tu sl = some (tu + sl - 1) ∧ kd K (tu + sl - 1) = kind ∧ le K (tu + sl - 1) = len) ∧
  cI M tu 0 = mA S 20 (24 * bn + u) ∧ (mA S 20 (24 * bn + u) = 0 ∨ mA S 20 (24 * bn + u) = 1) ∧ cI M tu 1 = mA S 21 (24 * bn + u) ∧ (mA S 21 (24 * bn + u) = 0 ∨ mA S 21 (24 * bn + u) = 1) ∧ cI M tu 6 = mA S 22 (24 * bn + u) ∧ cI M tu 7 = mA S 23 (24 * bn + u) ∧
  (mA S 22 (24 * bn + u) = -1 ∨ ∃ v, v < u ∧ mA S 22 (24 * bn + u) = nI v) ∧ ∃ nr, nr ≤ 6 ∧ mA S 23 (24 * bn + u) = nI nr ∧ ∀ k, k < nr → ∃ r, r < u ∧ mA S 24 (6 * (24 * bn + u) + k) = nI r ∧ cI M (tu + 1) k = nI r
/-- its settings and statics -/
def UB (M : Cm) (S : Ms) (bn u tu : Nat) : Prop := ∃ ni ns, ni ≤ 8 ∧ ns ≤ ni ∧ cI M tu 8 = nI ni ∧ mA S 25 (24 * bn + u) = nI ni ∧ cI M tu 9 = nI ns ∧ mA S 31 (24 * bn + u) = nI ns ∧ mA S 30 (24 * bn + u) = nI (ni - ns) ∧ NM1 S 26 (8 * (24 * bn + u)) ni ∧
  (∀ s, s < ni → cL M (tu + 2) s = mL S 26 (8 * (24 * bn + u) + s) ∧ ((mA S 27 (8 * (24 * bn + u) + s) = 1 ∧ cI M (tu + 4) s = 0 ∧ cI M (tu + 3) s = mA S 28 (8 * (24 * bn + u) + s)) ∨ (mA S 27 (8 * (24 * bn + u) + s) = 0 ∧ cI M (tu + 4) s = 1 ∧ cI M (tu + 3) s = mA S 29 (8 * (24 * bn + u) + s) ∧ ∃ r, r < ns ∧ mA S 29 (8 * (24 * bn + u) + s) = nI r))) ∧
  (∀ r, r < ns → ∃ s, s < ni ∧ mA S 27 (8 * (24 * bn + u) + s) = 0 ∧ mA S 29 (8 * (24 * bn + u) + s) = nI r) ∧ (∀ s s', s < ni → s' < ni → mA S 27 (8 * (24 * bn + u) + s) = 0 → mA S 27 (8 * (24 * bn + u) + s') = 0 → mA S 29 (8 * (24 * bn + u) + s) = mA S 29 (8 * (24 * bn + u) + s') → s = s') ∧ ∀ s, ni ≤ s → cI M (tu + 4) s = 0
/-- where a name is looked for -/
def UC (K : Ka) (M : Cm) (sm : Nat) (fl : Nat → List Nat) (u tu : Nat) : Prop := ∃ su, ∃ L : List Nat, cR M tu 10 = some su ∧ kd K su = 22 ∧ le K su = L.length ∧ L.length ≤ 24 ∧ (sm + 11 ≤ su ∧ su < kz K ∧ su = tu + 8) ∧ (∀ j, j < L.length → cI M su j = nI (L.getD j 0)) ∧ (∀ v, v ∈ L → v ≤ u) ∧ ∀ p : Nat → Bool, L.find? p = (fl u).find? p
def flq (S : Ms) (bn : Nat) (fl : Nat → List Nat) (u : Nat) : List Nat := u :: (((List.range (mA S 23 (24 * bn + u)).toNatClampNeg).flatMap (fun k => fl (mA S 24 (6 * (24 * bn + u) + k)).toNatClampNeg)) ++ (if mA S 22 (24 * bn + u) < 0 then [] else fl (mA S 22 (24 * bn + u)).toNatClampNeg))
/-- units lie apart -/
def SEP (M : Cm) (sm nu : Nat) : Prop := ∀ u u' tu tu', u < u' → u' < nu → cR M (sm + 6) u = some tu → cR M (sm + 6) u' = some tu' → tu + 10 ≤ tu'
def PU (K : Ka) (M : Cm) (S : Ms) (bn sm nu : Nat) : Prop := (cR M sm 5 = some (sm + 6) ∧ kd K (sm + 6) = 26 ∧ nu ≤ le K (sm + 6) ∧ le K (sm + 6) ≤ 24) ∧ (cR M sm 6 = some (sm + 7) ∧ kd K (sm + 7) = 22 ∧ nu ≤ le K (sm + 7) ∧ le K (sm + 7) ≤ 24 ∧ SEP M sm nu) ∧ ∃ fl : Nat → List Nat, ∀ u, u < nu → (∃ tu, UA K M S bn sm u tu ∧ UB M S bn u tu ∧ UC K M sm fl u tu) ∧ fl u = flq S bn fl u
/-- an instruction names what is there -/
def SLs (S : Ms) (bn p q : Nat) (k : Int32) : Prop := (∃ ni, ni ≤ 8 ∧ mA S 25 (24 * bn + p) = nI ni ∧ q < ni) ∧ mA S 27 (sl8 bn p q) = k
def VO (bn : Nat) (S : Ms) (nd nu : Nat) (x : Nat × Nat × Nat) : Prop := (x.1 = 2 → x.2.1 ≤ 999999999) ∧ (x.1 = 3 → x.2.1 < nu ∧ SLs S bn x.2.1 x.2.2 1) ∧ (x.1 = 4 ∨ x.1 = 5 → x.2.1 < nu ∧ SLs S bn x.2.1 x.2.2 0) ∧ (x.1 = 6 → x.2.1 < nu) ∧ (x.1 = 7 ∨ x.1 = 14 → x.2.1 < nd) ∧ (x.1 = 9 → 1 ≤ x.2.1 ∧ x.2.1 ≤ 9) ∧ (25 ≤ x.1 ∧ x.1 ≤ 27 → x.2.1 ≤ 4000 ∧ x.2.2 ≤ nu ∧ mA S 4 x.2.1 = 1 ∧ (x.1 ≠ 27 → mA S 4 (x.2.1 + 2) = 1))
/-- what waits for the text's end: token, place, sort, unit + 1 -/
def lend (e : Nat × Nat × Nat × Nat) : Nat := if e.2.2.1 = 27 then e.1 + 1 else e.1 + 2
def R5 (S : Ms) (k : Nat) (e : Nat × Nat × Nat × Nat) : Prop := mA S 43 k = nI e.1 ∧ mA S 44 k = (if e.2.2.1 = 27 then -1 else nI (e.1 + 2)) ∧ mA S 45 k = nI e.2.1 ∧ mA S 46 k = (if e.2.2.1 = 26 then 1 else 0) ∧ mA S 47 k = nI e.2.2.2 - 1
def LTe (g : Nat → Nat × Nat × Nat) (S : Ms) (rc a rv k : Nat) (e : Nat × Nat × Nat × Nat) : Prop := 2 ≤ e.1 ∧ lend e < a ∧ (rv = 0 ∨ lend e < rv ∨ rv + 3 ≤ e.1) ∧ e.2.1 < rc ∧ g e.2.1 = (e.2.2.1, e.1, e.2.2.2) ∧ 25 ≤ e.2.2.1 ∧ e.2.2.1 ≤ 27 ∧ e.2.2.2 ≤ 24 ∧ R5 S k e
def LT (g : Nat → Nat × Nat × Nat) (S : Ms) (rc a rv : Nat) : Prop := ∃ nl, ∃ e : Nat → Nat × Nat × Nat × Nat, mF S 48 = nI nl ∧ (∀ k, k < nl → LTe g S rc a rv k (e k)) ∧ (∀ k, k + 1 < nl → lend (e k) < (e (k + 1)).1) ∧ ∀ c, c < rc → 25 ≤ (g c).1 → (g c).1 ≤ 27 → ∃ k, k < nl ∧ (e k).2.1 = c
/-- the instructions, with marks -/
abbrev Mk : Type := Nat × Nat × (Nat × Nat × Nat) × Jt
/-- a mark: an instruction, or (99) the place where a start, closing or demand begins, what is brought ahead of it -/
def MC (sm : Nat) (M : Cm) (g : Nat → Nat × Nat × Nat) (pi : Nat → Nat) (J : Nat → Jt) (rc : Nat) (m : Mk) : Prop :=
  (m.2.2.1.1 ≠ 99 → m.1 < rc ∧ g m.1 = m.2.2.1 ∧ J m.1 = m.2.2.2) ∧ pi m.1 = m.2.1 ∧
  (m.2.2.1.1 = 99 → m.1 ≤ rc ∧ (J m.1).1 = 0 ∧ (J m.1).2.1 = [] ∧ m.2.2.2.2.1.length + m.2.2.1.2.1 ≤ m.2.1 ∧ (∀ k, k < m.1 → pi k + tw (g k) + (m.2.2.2.2.1.length + m.2.2.1.2.1) ≤ m.2.1) ∧ (∀ k, k < m.2.2.2.2.1.length → cL M (sm + 10) (m.2.1 - (m.2.2.2.2.1.length + m.2.2.1.2.1) + k) = wd 7 (nI (m.2.2.2.2.1.getD k 0)) 0) ∧ (m.2.2.1.2.1 = 1 → cL M (sm + 10) (m.2.1 - 1) = wd 8 0 0))
def MP (m m' : Mk) : Prop := m.2.2.1.1 = 99 ∨ m'.2.2.1.1 = 99 ∨ m'.1 < m.1
def CD (bn sm nd nu : Nat) (M : Cm) (S : Ms) (mk : List Mk) (j : Jt) (rc cc a rv : Nat) : Prop := List.Pairwise MP mk ∧ ∃ g pi J, CG bn (10000 * bn) sm M S g pi rc cc ∧ (∀ i, i < rc → W1 g J rc i) ∧ J rc = j ∧ (∀ m, m ∈ mk → MC sm M g pi J rc m) ∧ (∀ i, i < rc → 28 ≤ (g i).1 → ∃ m, m ∈ mk ∧ m.1 = i ∧ m.2.2.1.1 ≠ 99) ∧ (∀ i, i < rc → VO bn S nd nu (g i)) ∧ LT g S rc a rv
/-- on what units lean; ex: what the unit's head tells -/
def LE (bn sm nu : Nat) (ex : Nat → Nat → Prop) (M : Cm) (S : Ms) : Prop := ∀ u v, u < 24 → v < 24 → (bt (cI M (sm + 7) u) v = true ↔ mA S 34 (24 * (24 * bn + u) + v) = 1 ∨ ex u v) ∧ (mA S 34 (24 * (24 * bn + u) + v) = 0 ∨ mA S 34 (24 * (24 * bn + u) + v) = 1) ∧ (nu ≤ u → mA S 34 (24 * (24 * bn + u) + v) = 0)
/-- what stands still while statements are read -/
def SB (z : Nat) (K : Ka) (M : Cm) (S : Ms) (bn sm nd nu nm iu : Nat) : Prop := NNw z K M S bn sm nd nu nm ∧ (cR M sm 0 = some (sm + 1) ∧ cR M sm 4 = some (sm + 5) ∧ cR M sm 7 = some (sm + 8)) ∧ PU K M S bn sm nu ∧ mF S 42 = nI (10000 * bn) ∧ mF S 49 = nI iu - 1 ∧ cI M (z + 7) 4 = nI iu - 1 ∧ iu ≤ nu
/-- cells more, and how many at most -/
def KB (K K' : Ka) : Prop := KE K K' ∧ kz K' ≤ kz K + 260 ∧ ku K' ≤ ku K + 12000
def EVP (z b bn sm t : Nat) (K0 K : Ka) : Prop := (b = 0 ∨ b = 1) ∧ bn = 1 - b ∧ z + 174 ≤ kz K0 ∧ kz K0 ≤ sm ∧ sm + 11 ≤ kz K ∧ KB K0 K ∧ le K (sm + 10) = 2 * t + 10
def PS (z b bn sm size t nd nu nm iu : Nat) (ex : Nat → Nat → Prop) (K0 K : Ka) (M : Cm) (S : Ms) (mk : List Mk) (j : Jt) (rc cc a v rv dp : Nat) : Prop :=
  EVP z b bn sm t K0 K ∧ SB z K M S bn sm nd nu nm iu ∧ PT z K M S size t a ∧ CR z K M sm cc ∧ CD bn sm nd nu M S mk j rc cc a rv ∧ LE bn sm nu ex M S ∧ mF S 38 = nI rc ∧ mF S 50 = nI dp ∧ cc + v ≤ 2 * a ∧ 2 ≤ a
section PSTATE
variable {z b bn sm size t nd nu nm iu : Nat} {ex : Nat → Nat → Prop} {K0 K : Ka} {M M' : Cm} {S S' : Ms} {mk : List Mk} {j : Jt} {rc cc a v rv dp : Nat}
theorem rc_cc {g : Nat → Nat × Nat × Nat} {pi : Nat → Nat} {cf : Nat} (h : CG bn cf sm M S g pi rc cc) : rc ≤ cc := by
  have h3 := h.2.2.1
  have : ∀ i, i ≤ rc → i ≤ pi i := by
    intro i
    induction i with
    | zero => intro _; omega
    | succ i ih =>
      intro hi
      have := ih (by omega)
      have := h3 i (by omega)
      have := (tw_pos (g i)).1
      omega
  rw [← h.1]
  exact this rc (Nat.le_refl _)
theorem CD.le (h : CD bn sm nd nu M S mk j rc cc a rv) : rc ≤ cc := by obtain ⟨-, g, pi, J, h, -⟩ := h; exact rc_cc h
theorem NN.fr (hf : FR z b sm K0 M M' S S') (hs : z + 174 ≤ sm) (h : NN z K M S bn sm nd nu nm) (hr : ∀ sl, sl = 0 ∨ sl = 4 ∨ sl = 7 → ∀ a, cR M sm sl = some a → a ≠ sm + 10) : NN z K M' S' bn sm nd nu nm := by
  obtain ⟨n1, n2, n3, n4, n5, n6, n7, n8, n9, n10, n11, n12, n13, n14, n15, n16⟩ := h
  obtain ⟨f1, f2, f3, f4, f5, f6, f7, f8, -⟩ := hf
  have R : ∀ {sl row base n}, sl = 0 ∨ sl = 4 ∨ sl = 7 → NRow K M S sm sl row base n → NRow K M' S' sm sl row base n := fun {sl row base n} hsl q => by
    obtain ⟨a, q1, q2, q3, q4, q5, q6⟩ := q
    refine ⟨a, by rw [f3]; exact q1, q2, q3, q4, fun d hd => ?_, ?_⟩
    · rw [f2 a (hr sl hsl a q1), f8]; exact q5 d hd
    · unfold NM1 at q6 ⊢; rw [f8]; exact q6
  refine ⟨n1, ?_, ?_, n4, n5, n6, n7, ?_, ?_, ?_, ?_, ?_, ?_, R (Or.inl rfl) n14, R (Or.inr (Or.inl rfl)) n15, R (Or.inr (Or.inr rfl)) n16⟩
  · rw [f6 12 (by decide) (by decide) (by decide) (by decide) (by decide) (by decide)]; exact n2
  · rw [f3]; exact n3
  · rw [f5 10 (by decide)]; exact n8
  · rw [f7 13 (by decide) (by decide) (by decide)]; exact n9
  · rw [f5 11 (by decide)]; exact n10
  · rw [f7 18 (by decide) (by decide) (by decide)]; exact n11
  · rw [f5 12 (by decide)]; exact n12
  · rw [f7 35 (by decide) (by decide) (by decide)]; exact n13
theorem NNw.fr (hf : FR z b sm K0 M M' S S') (hs : z + 174 ≤ sm) (h : NNw z K M S bn sm nd nu nm) (hr : ∀ sl, sl = 0 ∨ sl = 4 ∨ sl = 7 → ∀ a, cR M sm sl = some a → a ≠ sm + 10) : NNw z K M' S' bn sm nd nu nm := by
  obtain ⟨n1, n2, n3, n4, n5, n6, n7, n8, n9, n10, n11, n14, n15⟩ := h
  obtain ⟨f1, f2, f3, f4, f5, f6, f7, f8, -⟩ := hf
  have R : ∀ {sl row base n}, sl = 0 ∨ sl = 4 ∨ sl = 7 → NRow K M S sm sl row base n → NRow K M' S' sm sl row base n := fun {sl row base n} hsl q => by
    obtain ⟨a, q1, q2, q3, q4, q5, q6⟩ := q
    refine ⟨a, by rw [f3]; exact q1, q2, q3, q4, fun d hd => ?_, ?_⟩
    · rw [f2 a (hr sl hsl a q1), f8]; exact q5 d hd
    · unfold NM1 at q6 ⊢; rw [f8]; exact q6
  refine ⟨n1, ?_, ?_, n4, n5, n6, n7, ?_, ?_, ?_, ?_, R (Or.inl rfl) n14, R (Or.inr (Or.inl rfl)) n15⟩
  · rw [f6 12 (by decide) (by decide) (by decide) (by decide) (by decide) (by decide)]; exact n2
  · rw [f3]; exact n3
  · rw [f5 10 (by decide)]; exact n8
  · rw [f7 13 (by decide) (by decide) (by decide)]; exact n9
  · rw [f5 11 (by decide)]; exact n10
  · rw [f7 18 (by decide) (by decide) (by decide)]; exact n11
theorem PU.fr (hf : FR z b sm K0 M M' S S') (hs : z + 174 ≤ sm) (h : PU K M S bn sm nu) : PU K M' S' bn sm nu := by
  obtain ⟨f1, f2, f3, f4, f5, f6, f7, f8, -⟩ := hf
  obtain ⟨p1, p2, fl, p3⟩ := h
  have r : ∀ k, k ≠ 34 → ¬ (39 ≤ k ∧ k ≤ 47) → k ≠ 53 → mA S' k = mA S k := f7
  refine ⟨by rw [f3]; exact p1, by unfold SEP; rw [f3]; exact p2, fl, fun u hu => ?_⟩
  obtain ⟨⟨tu, a1, a2, a3⟩, a4⟩ := p3 u hu
  have ht := a1.2.1
  have cI' : ∀ a, sm + 11 ≤ a → cI M' a = cI M a := fun a ha => f1 a (by omega) (by omega) (by omega)
  have cL' : ∀ a, sm + 11 ≤ a → cL M' a = cL M a := fun a ha => f2 a (by omega)
  have r20 := r 20 (by decide) (by decide) (by decide)
  have r21 := r 21 (by decide) (by decide) (by decide)
  have r22 := r 22 (by decide) (by decide) (by decide)
  have r23 := r 23 (by decide) (by decide) (by decide)
  have r24 := r 24 (by decide) (by decide) (by decide)
  have r25 := r 25 (by decide) (by decide) (by decide)
  have r27 := r 27 (by decide) (by decide) (by decide)
  have r28 := r 28 (by decide) (by decide) (by decide)
  have r29 := r 29 (by decide) (by decide) (by decide)
  have r30 := r 30 (by decide) (by decide) (by decide)
  have r31 := r 31 (by decide) (by decide) (by decide)
  refine ⟨⟨tu, ?_, ?_, ?_⟩, ?_⟩
  · unfold UA at a1 ⊢
    rw [r20, r21, r22, r23, r24, cI' tu (by omega), cI' (tu + 1) (by omega), f3]
    exact a1
  · unfold UB NM1 at a2 ⊢
    rw [r25, r27, r28, r29, r30, r31, f8, cI' tu (by omega), cI' (tu + 3) (by omega), cI' (tu + 4) (by omega), cL' (tu + 2) (by omega)]
    exact a2
  · unfold UC at a3 ⊢
    obtain ⟨su, L, c1, c2, c3, c4, c5, c6, c7⟩ := a3
    exact ⟨su, L, by rw [f3]; exact c1, c2, c3, c4, c5, fun j hj => by rw [cI' su (by omega)]; exact c6 j hj, c7⟩
  · unfold flq at a4 ⊢
    rw [r22, r23, r24]
    exact a4
theorem SB.fr (hf : FR z b sm K0 M M' S S') (hs : z + 174 ≤ sm) (h : SB z K M S bn sm nd nu nm iu) : SB z K M' S' bn sm nd nu nm iu := by
  obtain ⟨h1, h2, h3, h4, h5, h6, h7⟩ := h
  refine ⟨h1.fr hf hs (fun sl hsl a ha => ?_), by rw [hf.2.2.1]; exact h2, h3.fr hf hs, ?_, ?_, ?_, h7⟩
  · rcases hsl with q | q | q
    · subst q; rw [h2.1] at ha; cases ha; omega
    · subst q; rw [h2.2.1] at ha; cases ha; omega
    · subst q; rw [h2.2.2] at ha; cases ha; omega
  · rw [hf.2.2.2.2.2.1 42 (by decide) (by decide) (by decide) (by decide) (by decide) (by decide)]; exact h4
  · rw [hf.2.2.2.2.2.1 49 (by decide) (by decide) (by decide) (by decide) (by decide) (by decide)]; exact h5
  · rw [hf.2.2.2.1 4 (by decide) (by decide)]; exact h6
/-- what the instructions don't read may change -/
theorem CD.q {a' : Nat} (h : CD bn sm nd nu M S mk j rc cc a rv) (hL : cL M' (sm + 10) = cL M (sm + 10)) (hA : ∀ k, k = 4 ∨ k = 25 ∨ k = 27 ∨ k = 28 ∨ k = 29 ∨ (39 ≤ k ∧ k ≤ 47) → mA S' k = mA S k) (h48 : mF S' 48 = mF S 48) (ha : a ≤ a') : CD bn sm nd nu M' S' mk j rc cc a' rv := by
  obtain ⟨pw, g, pi, J, c1, c2, c3, c4, c5, c6, nl, e, l1, l2, l3, l4⟩ := h
  refine ⟨pw, g, pi, J, ?_, c2, c3, fun m hm => by have := c4 m hm; unfold MC at this ⊢; rw [hL]; exact this, c5, fun i hi => ?_, nl, e, by rw [h48]; exact l1, fun k hk => ?_, l3, l4⟩
  · unfold CG at c1 ⊢
    rw [hL, hA 39 (by omega), hA 40 (by omega), hA 41 (by omega)]
    refine ⟨c1.1, fun i hi => ?_, c1.2.2⟩
    rw [cwd_ag (S' := S') (S := S) (pi := pi) (pi' := pi) (hA 28 (by omega)) (hA 29 (by omega)) (fun _ _ => rfl)]
    exact c1.2.1 i hi
  · have := c6 i hi
    unfold VO SLs at this ⊢
    rw [hA 25 (by omega), hA 27 (by omega), hA 4 (by omega)]
    exact this
  · have := l2 k hk
    unfold LTe R5 at this ⊢
    rw [hA 43 (by omega), hA 44 (by omega), hA 45 (by omega), hA 46 (by omega), hA 47 (by omega)]
    obtain ⟨w1, w2, w3⟩ := this
    exact ⟨w1, by omega, w3⟩
theorem CD.setrv {rv' : Nat} (h : CD bn sm nd nu M S mk j rc cc a 0) (hr : a ≤ rv') : CD bn sm nd nu M S mk j rc cc a rv' := by
  obtain ⟨pw, g, pi, J, c1, c2, c3, c4, c5, c6, nl, e, l1, l2, l3, l4⟩ := h
  refine ⟨pw, g, pi, J, c1, c2, c3, c4, c5, c6, nl, e, l1, fun k hk => ?_, l3, l4⟩
  obtain ⟨w1, w2, w3, w4⟩ := l2 k hk
  exact ⟨w1, w2, Or.inr (Or.inl (by omega)), w4⟩
theorem CD.rv0 {rv : Nat} (h : CD bn sm nd nu M S mk j rc cc a rv) : CD bn sm nd nu M S mk j rc cc a 0 := by
  obtain ⟨pw, g, pi, J, c1, c2, c3, c4, c5, c6, nl, e, l1, l2, l3, l4⟩ := h
  refine ⟨pw, g, pi, J, c1, c2, c3, c4, c5, c6, nl, e, l1, fun k hk => ?_, l3, l4⟩
  obtain ⟨w1, w2, w3, w4⟩ := l2 k hk
  exact ⟨w1, w2, Or.inl rfl, w4⟩
theorem CD.drop {m : Mk} (h : CD bn sm nd nu M S (m :: mk) j rc cc a rv) (hm : m.2.2.1.1 < 28) : CD bn sm nd nu M S mk j rc cc a rv := by
  obtain ⟨pw, g, pi, J, c1, c2, c3, c4, c5, c6, c7⟩ := h
  refine ⟨(List.pairwise_cons.mp pw).2, g, pi, J, c1, c2, c3, fun m' h' => c4 m' (List.mem_cons_of_mem _ h'), fun i hi h28 => ?_, c6, c7⟩
  obtain ⟨m', q1, q2, q3⟩ := c5 i hi h28
  rcases List.mem_cons.mp q1 with e | e
  · have := ((c4 m (List.mem_cons_self ..)).1 (by omega)).2.1
    rw [← e, q2] at this
    rw [this, e] at h28
    omega
  · exact ⟨m', e, q2, q3⟩
theorem LE.q (h : LE bn sm nu ex M S) (hM : cI M' (sm + 7) = cI M (sm + 7)) (hS : mA S' 34 = mA S 34) : LE bn sm nu ex M' S' := by
  unfold LE at h ⊢
  rw [hM, hS]
  exact h
/-- one token on, or more -/
theorem FR.mv (j : Nat) (v : Int32) (hz : z + 174 ≤ sm) : FR z b sm K0 M (mv z M j) S (pF S 7 v) :=
  ⟨fun a h1 _ _ => mv_I j h1, fun _ _ => rfl, rfl, fun s h1 h2 => mv_o j h1 h2, fun s _ => by rw [mv_I j (show sm ≠ z + 7 by omega)], fun k h1 _ _ _ _ _ => by rw [mF_F, if_neg h1], fun _ _ _ _ => rfl, rfl, mv_A j, AgO.pF o7 _⟩
theorem PS.tk {a' : Nat} (h : PS z b bn sm size t nd nu nm iu ex K0 K M S mk j rc cc a v rv dp) (h1 : a ≤ a') (h2 : a' ≤ t) : PS z b bn sm size t nd nu nm iu ex K0 K (mv z M a') (pF S 7 (nI a')) mk j rc cc a' (v + 2 * (a' - a)) rv dp := by
  obtain ⟨e, s, p, c, d, l, q1, q2, q3, q4⟩ := h
  have hz : z + 174 ≤ sm := by have := e.2.2.1; have := e.2.2.2.1; omega
  exact ⟨e, s.fr (FR.mv (b := b) (K0 := K0) a' (nI a') hz) hz, p.mv h2, c.mv a', d.q rfl (fun _ _ => rfl) rfl h1, l.q (mv_I a' (by omega)) rfl, q1, q2, by omega, by omega⟩
/-- a field of the reference that nothing here reads -/
theorem FR.pF {k : Nat} (hk : k = 50 ∨ k = 51 ∨ k = 52) (w : Int32) : FR z b sm K0 M M S (pF S k w) :=
  ⟨fun _ _ _ _ => rfl, fun _ _ => rfl, rfl, fun _ _ _ => rfl, fun _ _ => rfl, fun i _ _ _ _ _ _ => by rw [mF_F, if_neg (by omega)], fun _ _ _ _ => rfl, rfl, AgA.rf _ _ _, AgO.pF (by unfold OF; omega) _⟩
theorem PT.pF {k : Nat} (h : PT z K M S size t a) (hk : k ≠ 7 ∧ k ≠ 8) (w : Int32) : PT z K M (pF S k w) size t a := by
  obtain ⟨h1, h2, h3, h4, h5, h6, h7, h8⟩ := h
  exact ⟨h1, h2, h3, by rw [mF_F, if_neg (by omega)]; exact h4, by rw [mF_F, if_neg (by omega)]; exact h5, h6, h7, h8⟩
theorem PS.dps (h : PS z b bn sm size t nd nu nm iu ex K0 K M S mk j rc cc a v rv dp) (d : Nat) : PS z b bn sm size t nd nu nm iu ex K0 K M (pF S 50 (nI d)) mk j rc cc a v rv d := by
  obtain ⟨e, s, p, c, dd, l, q1, q2, q3, q4⟩ := h
  have hz : z + 174 ≤ sm := by have := e.2.2.1; have := e.2.2.2.1; omega
  exact ⟨e, s.fr (FR.pF (b := b) (K0 := K0) (Or.inl rfl) _) hz, p.pF (by decide) _, c, dd.q rfl (fun _ _ => rfl) rfl (Nat.le_refl _), l, q1, rfl, q3, q4⟩
theorem PS.sl {k : Nat} (h : PS z b bn sm size t nd nu nm iu ex K0 K M S mk j rc cc a v rv dp) (hk : k = 51 ∨ k = 52) (w : Int32) : PS z b bn sm size t nd nu nm iu ex K0 K M (pF S k w) mk j rc cc a v rv dp := by
  obtain ⟨e, s, p, c, dd, l, q1, q2, q3, q4⟩ := h
  have hz : z + 174 ≤ sm := by have := e.2.2.1; have := e.2.2.2.1; omega
  exact ⟨e, s.fr (FR.pF (b := b) (K0 := K0) (Or.inr hk) _) hz, p.pF (by omega) _, c, dd.q rfl (fun _ _ => rfl) (by rw [mF_F, if_neg (by omega)]) (Nat.le_refl _), l, by rw [mF_F, if_neg (by omega)]; exact q1, by rw [mF_F, if_neg (by omega)]; exact q2, q3, q4⟩
theorem FR.p53 (i : Nat) (w : Int32) : FR z b sm K0 M M S (pA S 53 i w) :=
  ⟨fun _ _ _ _ => rfl, fun _ _ => rfl, rfl, fun _ _ _ => rfl, fun _ _ => rfl, fun _ _ _ _ _ _ _ => rfl, fun k _ _ h => by rw [mA_Ane _ _ _ h], rfl, AgA.rf _ _ _, AgO.pA (fun h => h.2.2 rfl) _⟩
theorem PS.p53 (h : PS z b bn sm size t nd nu nm iu ex K0 K M S mk j rc cc a v rv dp) (i : Nat) (w : Int32) : PS z b bn sm size t nd nu nm iu ex K0 K M (pA S 53 i w) mk j rc cc a v rv dp := by
  obtain ⟨e, s, p, c, dd, l, q1, q2, q3, q4⟩ := h
  have hz : z + 174 ≤ sm := by have := e.2.2.1; have := e.2.2.2.1; omega
  exact ⟨e, s.fr (FR.p53 (b := b) (K0 := K0) _ _) hz, p.sA (by decide) (by decide) _ _, c, dd.q rfl (fun k hk => by rw [mA_Ane _ _ _ (by omega)]) rfl (Nat.le_refl _), l.q rfl (by rw [mA_Ane _ _ _ (by decide)]), q1, q2, q3, q4⟩
/-- a name is a word of the reference -/
theorem PT.w1 (h : PT z K M S size t a) {q : Nat} (hq : q < t) (hk : cI M (z + 3) q = 2) : mA S 4 q = 1 := by
  obtain ⟨-, -, s⟩ := h.2.1.2.2.2.2.2.2.2 q hq
  rcases s with ⟨s1, -⟩ | ⟨-, s2, -⟩ | ⟨-, c, c1, c2, -, c4, -⟩ | ⟨-, s2⟩
  · exact s1
  · rw [hk] at s2; exact absurd s2 (by decide)
  · rw [hk] at c4
    have := (nI_eq (a := 2) (by decide) (by omega)).mp c4
    omega
  · rw [hk] at s2; exact absurd s2 (by decide)
end PSTATE
