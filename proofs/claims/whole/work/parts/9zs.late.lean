/-! what waited for the text's end, one by one -/
def CF (sm : Nat) (M M' : Cm) : Prop := (∀ q, q ≠ sm + 7 → cI M' q = cI M q) ∧ (∀ q, q ≠ sm + 10 → cL M' q = cL M q) ∧ cR M' = cR M
def SFr (b : Nat) (S S' : Ms) : Prop := (∀ k, k ≠ 7 → k ≠ 51 → k ≠ 52 → mF S' k = mF S k) ∧ (∀ k, k ≠ 34 → ¬ (39 ≤ k ∧ k ≤ 41) → k ≠ 53 → mA S' k = mA S k) ∧ mL S' = mL S ∧ AgO b S S'
theorem CF.rf (sm : Nat) (M : Cm) : CF sm M M := ⟨fun _ _ => rfl, fun _ _ => rfl, rfl⟩
theorem CF.tr {sm : Nat} {M M' M'' : Cm} (h : CF sm M M') (q : CF sm M' M'') : CF sm M M'' := ⟨fun x hx => (q.1 x hx).trans (h.1 x hx), fun x hx => (q.2.1 x hx).trans (h.2.1 x hx), q.2.2.trans h.2.2⟩
theorem SFr.rf (b : Nat) (S : Ms) : SFr b S S := ⟨fun _ _ _ _ => rfl, fun _ _ _ _ => rfl, rfl, AgO.rf _ _⟩
theorem SFr.tr {b : Nat} {S S' S'' : Ms} (h : SFr b S S') (q : SFr b S' S'') : SFr b S S'' := ⟨fun k a1 a2 a3 => (q.1 k a1 a2 a3).trans (h.1 k a1 a2 a3), fun k a1 a2 a3 => (q.2.1 k a1 a2 a3).trans (h.2.1 k a1 a2 a3), q.2.2.1.trans h.2.2.1, h.2.2.2.tr q.2.2.2⟩
/-- a unit leans, with the class and the reference -/
def leanC (sm : Nat) (M : Cm) (i u : Nat) : Cm := if i = 0 then M else wI M (sm + 7) (i - 1) (cI M (sm + 7) (i - 1) ||| ((1 : Int32) <<< (nI u &&& 31)))
def leanS (bn : Nat) (S : Ms) (i u : Nat) : Ms := if i = 0 then S else pA S 34 (24 * (24 * bn + (i - 1)) + u) 1
section LATEW
variable {N z b bn sm size t nd nu nm a cc : Nat} {K0 K : Ka} {M M' : Cm} {S S' : Ms}
theorem CF.fr (h : CF sm M M') (s : SFr b S S') (hz : z + 174 ≤ sm) (hk : kz K0 ≤ sm) : FR z b sm K0 M M' S S' :=
  ⟨fun q _ _ h3 => h.1 q h3, fun q h1 => h.2.1 q h1, h.2.2, fun k _ _ => by rw [h.1 (z + 7) (by omega)], fun k _ => by rw [h.1 sm (by omega)], fun k h1 _ _ _ h5 h6 => s.1 k h1 h5 h6, fun k h1 h2 h3 => s.2.1 k h1 (by omega) h3, s.2.2.1, ⟨fun q h1 _ => ⟨h.1 q (by omega), h.2.1 q (by omega)⟩, fun q k _ _ => by rw [h.2.2]⟩, s.2.2.2⟩
theorem leanC_f (i u : Nat) : CF sm M (leanC sm M i u) := by
  unfold leanC
  split
  · exact CF.rf _ _
  · exact ⟨fun q hq => cI_wI_ne _ _ _ hq, fun _ _ => rfl, rfl⟩
theorem leanS_f (hb : b = 0 ∨ b = 1) (hbn : bn = 1 - b) {i u : Nat} (hi : i ≤ 24) (hu : u < 24) : SFr b S (leanS bn S i u) := by
  unfold leanS
  split
  · exact SFr.rf _ _
  · exact ⟨fun _ _ _ _ => rfl, fun k h1 _ _ => mA_Ane _ _ _ h1, rfl, AgO.pA (ob_n hb hbn (w := 576) rfl (by decide) (by omega) (by omega)) _⟩
theorem ln_c (ks : kd K sm = 6) (h11 : cI M sm 11 = nI nu) (h6 : cR M sm 6 = some (sm + 7) ∧ kd K (sm + 7) = 22 ∧ nu ≤ le K (sm + 7) ∧ le K (sm + 7) ≤ 24) {i u : Nat} (hi : i ≤ nu) (N : Nat) : fC_X5_leanOn N K sm (nI i - 1) (nI u) M = some (leanC sm M i u) := by
  unfold fC_X5_leanOn bC_X5_leanOn_24 leanC
  by_cases q : i = 0
  · subst q
    rw [if_pos (show nI 0 - 1 < 0 by decide), if_pos rfl]
  · obtain ⟨m, rfl⟩ : ∃ m, i = m + 1 := ⟨i - 1, by omega⟩
    rw [if_neg q, sub1 m (by omega), if_neg (nI_pos (by omega)), gd_k ks, h11, if_neg (nI_ge (show m < nu by omega) (by omega)), nn_s h6.1, gd_k h6.2.1, ck_n (show m < le K (sm + 7) by omega) (by omega), ck_n (show m < le K (sm + 7) by omega) (by omega), nI_clamp (show m < 2 ^ 31 by omega)]
    rfl
theorem uq_ok (hn : NNw z K M S bn sm nd nu nm) (r4 : cR M sm 4 = some (sm + 5)) (N : Nat) (hN : 30 < N) (x : Int64) :
    (∃ k, k < nu ∧ (∀ M', CF sm M M' → fC_X8_rankOf N K x (sm + 5) (nI nu) M' = some (nI k, M')) ∧ ∀ S', SFr b S S' → fM_findUnit N x S' = some (nI k, S')) ∨ ((∀ M', CF sm M M' → fC_X8_rankOf N K x (sm + 5) (nI nu) M' = some (-1, M')) ∧ ∀ S', SFr b S S' → fM_findUnit N x S' = some (-1, S')) := by
  obtain ⟨n1, n2, n3, n4, n5, n6, n7, n8, n9, n10, n11, n14, n15⟩ := hn
  have b2 : bn < 2 := by omega
  have nr : ∀ M' S', CF sm M M' → SFr b S S' → NRow K M' S' sm 4 19 (24 * bn) nu := fun M' S' c s => n15.st r4 (by rw [c.2.2]) (c.2.1 _ (by omega)) (by rw [s.2.2.1])
  have fu : ∀ S', SFr b S S' → fM_findUnit N x S' = (fM_find N 19 (nI (24 * bn)) (nI nu) x S').bind fun o22 => some (o22.1, o22.2) := fun S' s => by
    have e12 : mF S' 12 = nI bn := (s.1 12 (by decide) (by decide) (by decide)).trans n2
    have e18 : mA S' 18 bn = nI nu := by rw [s.2.1 18 (by decide) (by decide) (by decide)]; exact n11
    unfold fM_findUnit
    rw [e12, ck_n b2 (by decide), nI_clamp (show bn < 2 ^ 31 by omega), e24b, e18]
  have fnd : ∀ M' S', CF sm M M' → SFr b S S' → ((∃ k, k < nu ∧ mL S 19 (24 * bn + k) = x ∧ fC_X8_rankOf N K x (sm + 5) (nI nu) M' = some (nI k, M') ∧ fM_findUnit N x S' = some (nI k, S')) ∨ ((∀ k, k < nu → mL S 19 (24 * bn + k) ≠ x) ∧ fC_X8_rankOf N K x (sm + 5) (nI nu) M' = some (-1, M') ∧ fM_findUnit N x S' = some (-1, S'))) := fun M' S' c s => by
    obtain ⟨q, q1, q2⟩ := (nr M' S' c s).find N (by omega) rfl (by show 24 * bn + nu ≤ 48; omega) (by decide) x
    have eq : q = sm + 5 := by rw [c.2.2, r4] at q1; cases q1; rfl
    subst eq
    rw [s.2.2.1] at q2
    rcases q2 with ⟨k, k1, k2, k3, k4⟩ | ⟨k2, k3, k4⟩
    · exact Or.inl ⟨k, k1, k2, k3, by rw [fu S' s, k4]; rfl⟩
    · exact Or.inr ⟨k2, k3, by rw [fu S' s, k4]; rfl⟩
  obtain ⟨-, -, -, -, -, -, nm1⟩ := n15
  rcases fnd M S (CF.rf _ _) (SFr.rf _ _) with ⟨k, k1, k2, -⟩ | ⟨k2, -⟩
  · refine Or.inl ⟨k, k1, fun M' c => ?_, fun S' s => ?_⟩
    · rcases fnd M' S c (SFr.rf _ _) with ⟨k', b1, b2', b3, -⟩ | ⟨b2', -⟩
      · rw [nm1.2 k k' k1 b1 (k2.trans b2'.symm)]; exact b3
      · exact absurd k2 (b2' k k1)
    · rcases fnd M S' (CF.rf _ _) s with ⟨k', b1, b2', -, b3⟩ | ⟨b2', -⟩
      · rw [nm1.2 k k' k1 b1 (k2.trans b2'.symm)]; exact b3
      · exact absurd k2 (b2' k k1)
  · refine Or.inr ⟨fun M' c => ?_, fun S' s => ?_⟩
    · rcases fnd M' S c (SFr.rf _ _) with ⟨k', b1, b2', -⟩ | ⟨-, b3, -⟩
      · exact absurd b2' (k2 k' b1)
      · exact b3
    · rcases fnd M S' (CF.rf _ _) s with ⟨k', b1, b2', -⟩ | ⟨-, -, b3⟩
      · exact absurd b2' (k2 k' b1)
      · exact b3
theorem fq_ok (hn : NNw z K M S bn sm nd nu nm) (hp : PU K M S bn sm nu) (rr : cR M sm 0 = some (sm + 1) ∧ cR M sm 4 = some (sm + 5) ∧ cR M sm 7 = some (sm + 8)) (hz : z + 174 ≤ sm) (hk : kz K0 ≤ sm) (N : Nat) (hN : 30 < N) (x : Int64) {u : Nat} (hu : u < nu) :
    (∃ w s, w < nu ∧ hasI S bn x w s ∧ (∀ M', CF sm M M' → fC_X5_find N K sm (nI u) x M' = some (nI (8 * w + s), M')) ∧ ∀ S', SFr b S S' → ∃ r', fM_looks N (nI u) x S' = some (1, pF (pF (rw53 S' r') 51 (nI w)) 52 (nI s))) ∨ ((∀ M', CF sm M M' → fC_X5_find N K sm (nI u) x M' = some (-1, M')) ∧ ∀ S', SFr b S S' → ∃ r', fM_looks N (nI u) x S' = some (0, rw53 S' r')) := by
  have n6 : nu ≤ 24 := hn.2.2.2.2.2.1
  have row : ∀ sl, sl = 0 ∨ sl = 4 ∨ sl = 7 → ∀ q, cR M sm sl = some q → q ≠ sm + 10 := fun sl hsl q hq => by
    rcases hsl with y | y | y
    · subst y; rw [rr.1] at hq; cases hq; omega
    · subst y; rw [rr.2.1] at hq; cases hq; omega
    · subst y; rw [rr.2.2] at hq; cases hq; omega
  have pair : ∀ M' S', CF sm M M' → SFr b S S' → ((∃ w s r', w < nu ∧ hasI S' bn x w s ∧ fC_X5_find N K sm (nI u) x M' = some (nI (8 * w + s), M') ∧ fM_looks N (nI u) x S' = some (1, pF (pF (rw53 S' r') 51 (nI w)) 52 (nI s))) ∨ (fC_X5_find N K sm (nI u) x M' = some (-1, M') ∧ ∃ r', fM_looks N (nI u) x S' = some (0, rw53 S' r'))) := fun M' S' c s => by
    have f := CF.fr (K0 := K0) (z := z) c s hz hk
    exact fnd_ok (hn.fr f hz row) (hp.fr f hz) N hN x hu
  have s8 : ∀ {S' : Ms} {w s : Nat}, hasI S' bn x w s → s < 8 := fun {S' w s} h => by obtain ⟨⟨ni, i1, -, i3⟩, -⟩ := h; omega
  rcases pair M S (CF.rf _ _) (SFr.rf _ _) with ⟨w, s, r0, w1, w2, w3, w4⟩ | ⟨w3, r0, w4⟩
  · refine Or.inl ⟨w, s, w1, w2, fun M' c => ?_, fun S' sf => ?_⟩
    · rcases pair M' S c (SFr.rf _ _) with ⟨w', s', r', v1, v2, v3, v4⟩ | ⟨v3, r', v4⟩
      · rw [w4] at v4
        have e := (Prod.mk.inj (Option.some.inj v4)).2
        have e1 : nI w = nI w' := congrArg (fun S => mF S 51) e
        have e2 : nI s = nI s' := congrArg (fun S => mF S 52) e
        have h1 := s8 w2
        have h2 := s8 v2
        rw [(nI_eq (by omega) (by omega)).mp e1, (nI_eq (by omega) (by omega)).mp e2]
        exact v3
      · rw [w4] at v4
        exact absurd (Prod.mk.inj (Option.some.inj v4)).1 (by decide)
    · rcases pair M S' (CF.rf _ _) sf with ⟨w', s', r', v1, v2, v3, v4⟩ | ⟨v3, -⟩
      · rw [w3] at v3
        have e := (Prod.mk.inj (Option.some.inj v3)).1
        have h1 := s8 w2
        have h2 := s8 v2
        have e' := (nI_eq (by omega) (by omega)).mp e
        have ew : w = w' := by omega
        have es : s = s' := by omega
        subst ew es
        exact ⟨r', v4⟩
      · rw [w3] at v3
        have e := (Prod.mk.inj (Option.some.inj v3)).1
        have h1 := s8 w2
        have h3 : ¬ nI (8 * w + s) < 0 := nI_pos (by omega)
        rw [e] at h3
        exact absurd (by decide) h3
  · refine Or.inr ⟨fun M' c => ?_, fun S' sf => ?_⟩
    · rcases pair M' S c (SFr.rf _ _) with ⟨w', s', r', v1, v2, v3, v4⟩ | ⟨v3, -⟩
      · rw [w4] at v4
        exact absurd (Prod.mk.inj (Option.some.inj v4)).1 (by decide)
      · exact v3
    · rcases pair M S' (CF.rf _ _) sf with ⟨w', s', r', v1, v2, v3, v4⟩ | ⟨-, v4⟩
      · rw [w3] at v3
        have e := (Prod.mk.inj (Option.some.inj v3)).1
        have h1 := s8 v2
        have h3 : ¬ nI (8 * w' + s') < 0 := nI_pos (by omega)
        rw [← e] at h3
        exact absurd (by decide) h3
      · exact v4
theorem wr_ok {w j p : Nat} (h8 : mF S 8 = 0) (h7 : mF S 7 = nI j) (hj : j < 4002) (h5 : mA S 5 j = nI p) (N : Nat) : fM_wrong N (nI w) S = some (pF S 8 (nI (w + 16 * p))) := by
  unfold fM_wrong bM_wrong_25
  rw [if_pos h8, h7, ck_n hj (by decide), nI_clamp (by omega), h5, show (16 : Int32) = nI 16 from rfl, nI_mul, nI_add]
end LATEW
