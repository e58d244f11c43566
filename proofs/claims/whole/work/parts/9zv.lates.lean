/-! the reference settles what waited -/
abbrev E4 : Type := Nat × Nat × Nat × Nat
def SLI (b bn nl : Nat) (S : Ms) (e : Nat → E4) (Y : Nat → Nat × Nat × Nat) (U : Nat → Nat) (k : Nat) (S' : Ms) : Prop :=
  SFr b S S' ∧ (∀ k', k' < nl → mA S' 39 (10000 * bn + (e k').2.1) = (if k' < k then (rfd (10000 * bn) (Y (e k').2.1)).1 else mA S 39 (10000 * bn + (e k').2.1)) ∧ mA S' 40 (10000 * bn + (e k').2.1) = (if k' < k then (rfd (10000 * bn) (Y (e k').2.1)).2.1 else mA S 40 (10000 * bn + (e k').2.1)) ∧ mA S' 41 (10000 * bn + (e k').2.1) = (if k' < k then (rfd (10000 * bn) (Y (e k').2.1)).2.2 else mA S 41 (10000 * bn + (e k').2.1))) ∧
  (∀ j, (∀ k', k' < nl → j ≠ 10000 * bn + (e k').2.1) → mA S' 39 j = mA S 39 j ∧ mA S' 40 j = mA S 40 j ∧ mA S' 41 j = mA S 41 j) ∧
  ∀ u v, u < 24 → v < 24 → (mA S' 34 (24 * (24 * bn + u) + v) = 1 ↔ mA S 34 (24 * (24 * bn + u) + v) = 1 ∨ ∃ k', k' < k ∧ (e k').2.2.2 = u + 1 ∧ U (e k').2.1 = v) ∧ (mA S' 34 (24 * (24 * bn + u) + v) = 0 ∨ mA S' 34 (24 * (24 * bn + u) + v) = 1)
section LATES
variable {N z b bn sm size t nd nu nm a rv rc cc nl : Nat} {K : Ka} {M : Cm} {S : Ms} {g : Nat → Nat × Nat × Nat} {pi : Nat → Nat} {OKc : Nat → Prop} {Y : Nat → Nat × Nat × Nat} {U : Nat → Nat} {KT : Nat → Nat × Nat} {e : Nat → E4}
theorem lte_of {k : Nat} (lt : LTe g S rc a rv k (e k)) : lte (g (e k).2.1) ∧ (e k).2.1 < rc ∧ e k = ((g (e k).2.1).2.1, (e k).2.1, (g (e k).2.1).1, (g (e k).2.1).2.2) := by
  obtain ⟨w1, w2, w3, w4, w5, w6, w7, w8, w9⟩ := lt
  refine ⟨by unfold lte; rw [w5]; exact ⟨w6, w7⟩, w4, by rw [w5]⟩
theorem sl_lp (hCG : CG bn (10000 * bn) sm M S g pi rc cc) (hrc : rc < 10000) (lt : ∀ k, k < nl → LTe g S rc a rv k (e k)) (ord : ∀ k, k < nl → ∀ k', k' < nl → (e k).2.1 = (e k').2.1 → k = k') (hnl : nl < 2000) (h48 : mF S 48 = nI nl) (h8 : mF S 8 = 0) (hb2 : bn < 2) (hnu : nu ≤ 24)
    (k220 : Ms → Option (Int32 × Ms)) (hOK : ∀ c, c < rc → lte (g c) → OKc c → LOK N z b bn sm nd nu cc K M S (g c) (Y c) (U c)) (hBAD : ∀ c, c < rc → lte (g c) → ¬ OKc c → LBAD N z b bn sm cc K M S (g c) (KT c).1 (KT c).2) :
    ∀ (n k : Nat) (S' : Ms), k ≤ nl → nl + 1 < n + k → SLI b bn nl S e Y U k S' → (∀ k', k' < k → OKc (e k').2.1) →
    (∃ S'', lM_station_194 N k220 n (nI k) S' = k220 S'' ∧ SLI b bn nl S e Y U nl S'' ∧ ∀ k', k' < nl → OKc (e k').2.1) ∨
    (∃ k0 S'' p, k0 < nl ∧ ¬ OKc (e k0).2.1 ∧ (∀ k', k' < k0 → OKc (e k').2.1) ∧ lM_station_194 N k220 n (nI k) S' = k220 S'' ∧ p ≤ 4000 ∧ mA S 5 (KT (e k0).2.1).2 = nI p ∧ mF S'' 8 = nI ((KT (e k0).2.1).1 + 16 * p) ∧ AgO b S S'') := by
  intro n
  induction n with
  | zero => intro k S' h1 h2; omega
  | succ n ih =>
    intro k S' h1 h2 h ok
    obtain ⟨f, r, o, l⟩ := id h
    have m48 : mF S' 48 = nI nl := (f.1 48 (by decide) (by decide) (by decide)).trans h48
    have m8 : mF S' 8 = 0 := (f.1 8 (by decide) (by decide) (by decide)).trans h8
    rw [lM_station_194, m48]
    by_cases hk : k < nl
    · rw [if_neg (nI_ge hk (by omega)), if_pos m8]
      obtain ⟨w1, w2, w3⟩ := lte_of (lt k hk)
      have r5 : R5 S' k ((g (e k).2.1).2.1, (e k).2.1, (g (e k).2.1).1, (g (e k).2.1).2.2) := by
        have := (lt k hk).2.2.2.2.2.2.2.2
        rw [← w3]
        unfold R5 at this ⊢
        rw [f.2.1 43 (by decide) (by decide) (by decide), f.2.1 44 (by decide) (by decide) (by decide), f.2.1 45 (by decide) (by decide) (by decide), f.2.1 46 (by decide) (by decide) (by decide), f.2.1 47 (by decide) (by decide) (by decide)]
        exact this
      by_cases okk : OKc (e k).2.1
      · obtain ⟨k1, k2, k3, k4, k5⟩ := hOK _ w2 w1 okk
        have rk := r k hk
        rw [if_neg (Nat.lt_irrefl _), if_neg (Nat.lt_irrefl _), if_neg (Nat.lt_irrefl _)] at rk
        have cg := hCG.2.1 _ w2
        obtain ⟨S2, s1, s2, s3, s4, s5, s6⟩ := k5 S' k (e k).2.1 f r5 (by omega) (by omega) (rk.1.trans cg.2.1) (rk.2.2.trans cg.2.2.2)
        rw [s1, bs, nI_1]
        refine ih (k + 1) S2 (by omega) (by omega) ⟨f.tr s2, fun k' hk' => ?_, fun j hj => ?_, fun u v hu hv => ?_⟩ (fun k' hk' => ?_)
        · rw [s4, s5, s6]
          by_cases y : k' = k
          · subst y
            rw [if_pos rfl, if_pos rfl, if_pos rfl, if_pos (by omega), if_pos (by omega), if_pos (by omega)]
            exact ⟨rfl, rfl, rfl⟩
          · have ne : ¬ 10000 * bn + (e k').2.1 = 10000 * bn + (e k).2.1 := fun q => y (ord k' hk' k hk (by omega))
            rw [if_neg ne, if_neg ne, if_neg ne]
            have := r k' hk'
            by_cases q : k' < k
            · rw [if_pos q, if_pos q, if_pos q] at this
              rw [if_pos (by omega), if_pos (by omega), if_pos (by omega)]
              exact this
            · rw [if_neg q, if_neg q, if_neg q] at this
              rw [if_neg (by omega), if_neg (by omega), if_neg (by omega)]
              exact this
        · rw [s4, s5, s6, if_neg (hj k hk), if_neg (hj k hk), if_neg (hj k hk)]
          exact o j hj
        · obtain ⟨l1, l2⟩ := l u v hu hv
          rw [s3]
          have i24 : (g (e k).2.1).2.2 = (e k).2.2.2 := by rw [w3]
          have ib : (e k).2.2.2 ≤ 24 := (lt k hk).2.2.2.2.2.2.2.1
          unfold leanS
          rw [i24]
          by_cases y : (e k).2.2.2 = 0
          · rw [if_pos y]
            refine ⟨l1.trans ⟨fun q => q.elim Or.inl (fun ⟨k', q1, q2⟩ => Or.inr ⟨k', by omega, q2⟩), fun q => q.elim Or.inl (fun ⟨k', q1, q2, q3⟩ => ?_)⟩, l2⟩
            by_cases q4 : k' = k
            · subst q4; omega
            · exact Or.inr ⟨k', by omega, q2, q3⟩
          · rw [if_neg y, mA_A]
            by_cases q : 24 * (24 * bn + u) + v = 24 * (24 * bn + ((e k).2.2.2 - 1)) + U (e k).2.1
            · rw [if_pos ⟨rfl, q⟩]
              have e1 : u = (e k).2.2.2 - 1 := by omega
              have e2 : v = U (e k).2.1 := by omega
              exact ⟨⟨fun _ => Or.inr ⟨k, by omega, by omega, e2.symm⟩, fun _ => rfl⟩, Or.inr rfl⟩
            · rw [if_neg (fun w => q w.2)]
              refine ⟨l1.trans ⟨fun q => q.elim Or.inl (fun ⟨k', q1, q2⟩ => Or.inr ⟨k', by omega, q2⟩), fun q' => q'.elim Or.inl (fun ⟨k', q1, q2, q3⟩ => ?_)⟩, l2⟩
              by_cases q4 : k' = k
              · subst q4
                exact absurd (by rw [q2, q3]; omega) q
              · exact Or.inr ⟨k', by omega, q2, q3⟩
        · by_cases y : k' = k
          · rw [y]; exact okk
          · exact ok k' (by omega)
      · right
        obtain ⟨k1, k2, k3, k4, k5⟩ := hBAD _ w2 w1 okk
        obtain ⟨S2, p, s1, s2, s3, s4, s5⟩ := k5 S' k (e k).2.1 f r5 (by omega) (by omega)
        have n8 : ¬ mF S2 8 = 0 := by
          rw [s4]
          exact fun q => by have := (nI_eq (b := 0) (by omega) (by decide)).mp q; omega
        refine ⟨k, S2, p, hk, okk, ok, ?_, s2, s3, s4, f.2.2.2.tr s5⟩
        rw [s1, bs]
        obtain ⟨m, rfl⟩ : ∃ m, n = m + 1 := ⟨n - 1, by omega⟩
        rw [lM_station_194, if_neg n8]
        split <;> rfl
    · have ek : k = nl := by omega
      subst ek
      rw [if_pos (nI_le (Nat.le_refl _) (by omega))]
      exact Or.inl ⟨S', rfl, h, ok⟩
end LATES
