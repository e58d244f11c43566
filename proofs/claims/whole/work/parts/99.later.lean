/-! what waits for the text's end is put in order -/
abbrev Et : Type := Nat × Nat × Nat × Nat
def ins (e : Nat → Et) (p : Nat) (x : Et) (k : Nat) : Et := if k < p then e k else if k = p then x else e (k - 1)
theorem nar01' {w : Int32} (h : w = 0 ∨ w = 1) : vp_nar .boolean w = w := by rcases h with h | h <;> subst h <;> rfl
theorem tu_ok {S : Ms} (N : Nat) {k : Nat} (h1 : 1 ≤ k) (h2 : k < 2000) (h46 : (mA S 46 k = 0 ∨ mA S 46 k = 1) ∧ (mA S 46 (k - 1) = 0 ∨ mA S 46 (k - 1) = 1)) : ∃ S', fM_turns N (nI k) S = some S' ∧ mF S' = mF S ∧ mL S' = mL S ∧ (∀ r, ¬ (43 ≤ r ∧ r ≤ 47) → mA S' r = mA S r) ∧ ∀ r, 43 ≤ r ∧ r ≤ 47 → ∀ i, mA S' r i = if i = k then mA S r (k - 1) else if i = k - 1 then mA S r k else mA S r i := by
  have e1 : nI k - 1 = nI (k - 1) := nI_sub h1 (by omega)
  have c1 : ∀ {ρ : Type} (q : Option ρ), ck (nI k) 2000 q = q := fun q => ck_n h2 (by decide)
  have c2 : ∀ {ρ : Type} (q : Option ρ), ck (nI (k - 1)) 2000 q = q := fun q => ck_n (by omega) (by decide)
  have n1 : (nI k).toNatClampNeg = k := nI_clamp (by omega)
  have n2 : (nI (k - 1)).toNatClampNeg = k - 1 := nI_clamp (by omega)
  have nk : k - 1 ≠ k := by omega
  unfold fM_turns
  simp only [e1, c1, c2, n1, n2]
  refine ⟨_, rfl, rfl, rfl, fun r hr => ?_, fun r hr i => ?_⟩
  · rw [mA_Ane _ _ _ (by omega), mA_Ane _ _ _ (by omega), mA_Ane _ _ _ (by omega), mA_Ane _ _ _ (by omega), mA_Ane _ _ _ (by omega), mA_Ane _ _ _ (by omega), mA_Ane _ _ _ (by omega), mA_Ane _ _ _ (by omega), mA_Ane _ _ _ (by omega), mA_Ane _ _ _ (by omega)]
  · have q1 := nar01' h46.1
    have q2 := nar01' h46.2
    rcases (show r = 43 ∨ r = 44 ∨ r = 45 ∨ r = 46 ∨ r = 47 by omega) with e | e | e | e | e <;> subst e <;> simp [mA_A, q1, q2] <;> by_cases a1 : i = k <;> by_cases a2 : i = k - 1 <;> simp [a1, a2] <;> omega
theorem la_loop {S0 : Ms} (N : Nat) {nl : Nat} {e : Nat → Et} {x : Et} (hn : nl < 2000) (hb : ∀ k, k < nl → (e k).1 < 2 ^ 30) (hx : x.1 < 2 ^ 30) (hs : ∀ i k, i < k → k < nl → (e i).1 < (e k).1) (hne : ∀ k, k < nl → (e k).1 ≠ x.1) : ∀ (k n : Nat) (S : Ms), k ≤ nl → k < n → mF S = mF S0 → mL S = mL S0 → (∀ r, ¬ (43 ≤ r ∧ r ≤ 47) → mA S r = mA S0 r) → (∀ i, i < nl + 1 → R5 S i (ins e k x i)) → (∀ i, k ≤ i → i < nl → x.1 < (e i).1) →
    ∃ p S', p ≤ nl ∧ lM_later_80 N (bM_later_116 N) n (nI k) S = some S' ∧ mF S' = mF S0 ∧ mL S' = mL S0 ∧ (∀ r, ¬ (43 ≤ r ∧ r ≤ 47) → mA S' r = mA S0 r) ∧ (∀ i, i < nl + 1 → R5 S' i (ins e p x i)) ∧ (∀ i, p ≤ i → i < nl → x.1 < (e i).1) ∧ ∀ i, i < p → (e i).1 < x.1 := by
  intro k
  induction k with
  | zero =>
    intro n S h1 h2 a1 a2 a3 a4 a5
    obtain ⟨n, rfl⟩ : ∃ n', n = n' + 1 := ⟨n - 1, by omega⟩
    rw [lM_later_80, if_pos (show nI 0 ≤ 0 by decide)]
    exact ⟨0, S, by omega, rfl, a1, a2, a3, a4, a5, fun i hi => by omega⟩
  | succ k ih =>
    intro n S h1 h2 a1 a2 a3 a4 a5
    obtain ⟨n, rfl⟩ : ∃ n', n = n' + 1 := ⟨n - 1, by omega⟩
    have e1 : nI (k + 1) - 1 = nI k := nI_sub (a := k + 1) (b := 1) (by omega) (by omega)
    have i1 : ins e (k + 1) x (k + 1) = x := by unfold ins; rw [if_neg (by omega), if_pos rfl]
    have i0 : ins e (k + 1) x k = e k := by unfold ins; rw [if_pos (by omega)]
    have r1 := a4 (k + 1) (by omega)
    have r0 := a4 k (by omega)
    rw [i1] at r1
    rw [i0] at r0
    have b0 := hb k (by omega)
    rw [lM_later_80, if_neg (show ¬ nI (k + 1) ≤ 0 from nI_ge (a := 0) (by omega) (by omega)), e1, ck_n (show k < 2000 by omega) (by decide), ck_n (show k + 1 < 2000 by omega) (by decide), nI_clamp (show k < 2 ^ 31 by omega), nI_clamp (show k + 1 < 2 ^ 31 by omega), r0.1, r1.1]
    by_cases hc : (e k).1 ≤ x.1
    · rw [if_pos (nI_le hc (by omega))]
      refine ⟨k + 1, S, by omega, rfl, a1, a2, a3, a4, a5, fun i hi => ?_⟩
      have := hne k (by omega)
      by_cases q : i = k
      · subst q; omega
      · have := hs i k (by omega) (by omega); omega
    · rw [if_neg (nI_ge (by omega) (by omega))]
      have z1 : ∀ {y : Et} {i : Nat}, R5 S i y → mA S 46 i = 0 ∨ mA S 46 i = 1 := fun {y i} h => by
        have := h.2.2.2.1
        by_cases q : y.2.2.1 = 26
        · rw [if_pos q] at this; exact Or.inr this
        · rw [if_neg q] at this; exact Or.inl this
      obtain ⟨S1, t1, t2, t3, t4, t5⟩ := tu_ok (S := S) N (k := k + 1) (by omega) (by omega) ⟨z1 r1, z1 r0⟩
      rw [t1, bs]
      have em : nI (k + 1) + -1 = nI k := by rw [← Int32.sub_eq_add_neg]; exact e1
      rw [em]
      refine ih n S1 (by omega) (by omega) (t2.trans a1) (t3.trans a2) (fun r hr => (t4 r hr).trans (a3 r hr)) (fun i hi => ?_) (fun i g1 g2 => ?_)
      · have c : R5 S1 i (ins e k x i) ↔ R5 S (if i = k + 1 then k else if i = k then k + 1 else i) (ins e k x i) := by
          unfold R5
          rw [t5 43 (by omega), t5 44 (by omega), t5 45 (by omega), t5 46 (by omega), t5 47 (by omega), show k + 1 - 1 = k from rfl]
          by_cases q1 : i = k + 1
          · rw [if_pos q1, if_pos q1, if_pos q1, if_pos q1, if_pos q1, if_pos q1]
          · by_cases q2 : i = k
            · rw [if_neg q1, if_neg q1, if_neg q1, if_neg q1, if_neg q1, if_neg q1, if_pos q2, if_pos q2, if_pos q2, if_pos q2, if_pos q2, if_pos q2]
            · rw [if_neg q1, if_neg q1, if_neg q1, if_neg q1, if_neg q1, if_neg q1, if_neg q2, if_neg q2, if_neg q2, if_neg q2, if_neg q2, if_neg q2]
        rw [c]
        by_cases q1 : i = k + 1
        · have : ins e k x i = e k := by unfold ins; rw [if_neg (by omega), if_neg (by omega), q1]; rfl
          rw [this, if_pos q1]; exact r0
        · by_cases q2 : i = k
          · have : ins e k x i = x := by unfold ins; rw [if_neg (by omega), if_pos q2]
            rw [this, if_neg q1, if_pos q2]; exact r1
          · have : ins e k x i = ins e (k + 1) x i := by
              unfold ins
              by_cases q3 : i < k
              · rw [if_pos q3, if_pos (by omega)]
              · rw [if_neg q3, if_neg q2, if_neg (by omega), if_neg q1]
            rw [this, if_neg q1, if_neg q2]; exact a4 i hi
      · by_cases q : i = k
        · subst q; omega
        · exact a5 i (by omega) g2
theorem later_ok {S : Ms} (N : Nat) (hN : 2001 < N) {nl : Nat} {e : Nat → Et} {x : Et} (h8 : mF S 8 = 0) (h48 : mF S 48 = nI nl) (h49 : mF S 49 = nI x.2.2.2 - 1) (hn : nl < 2000) (hr : ∀ k, k < nl → R5 S k (e k)) (hb : ∀ k, k < nl → (e k).1 < 2 ^ 30) (hx : x.1 < 2 ^ 30) (hs : ∀ i k, i < k → k < nl → (e i).1 < (e k).1) (hne : ∀ k, k < nl → (e k).1 ≠ x.1) {x2 x4 : Int32} (hx2 : x2 = if x.2.2.1 = 27 then -1 else nI (x.1 + 2)) (hx4 : x4 = if x.2.2.1 = 26 then 1 else 0) :
    ∃ p S', p ≤ nl ∧ fM_later N (nI x.1) x2 (nI x.2.1) x4 S = some S' ∧ mF S' 48 = nI (nl + 1) ∧ (∀ k, k ≠ 48 → mF S' k = mF S k) ∧ mL S' = mL S ∧ (∀ r, ¬ (43 ≤ r ∧ r ≤ 47) → mA S' r = mA S r) ∧ (∀ i, i < nl + 1 → R5 S' i (ins e p x i)) ∧ (∀ i, p ≤ i → i < nl → x.1 < (e i).1) ∧ ∀ i, i < p → (e i).1 < x.1 := by
  have c1 : ∀ {ρ : Type} (q : Option ρ), ck (nI nl) 2000 q = q := fun q => ck_n hn (by decide)
  have n1 : (nI nl).toNatClampNeg = nl := nI_clamp (by omega)
  have x4' : vp_nar .boolean x4 = x4 := nar01' (by rw [hx4]; by_cases q : x.2.2.1 = 26; exact Or.inr (if_pos q); exact Or.inl (if_neg q))
  have hd : fM_later N (nI x.1) x2 (nI x.2.1) x4 S = lM_later_80 N (bM_later_116 N) N (nI nl) (pF (pA (pA (pA (pA (pA S 43 nl (nI x.1)) 44 nl x2) 45 nl (nI x.2.1)) 46 nl x4) 47 nl (mF S 49)) 48 (nI (nl + 1))) := by
    unfold fM_later
    have e49 : mF (pA (pA (pA (pA S 43 nl (nI x.1)) 44 nl x2) 45 nl (nI x.2.1)) 46 nl x4) 49 = mF S 49 := rfl
    rw [if_pos (show mF S 8 ≤ 0 by rw [h8]; decide)]
    simp only [mF_A, h48, c1, n1, x4', nI_1]
    have e48 : ∀ S', mF (pF S' 48 (nI (nl + 1))) 48 = nI (nl + 1) := fun _ => rfl
    rw [e48, show nI (nl + 1) - 1 = nI nl from nI_sub (a := nl + 1) (b := 1) (by omega) (by omega)]
  rw [hd]
  generalize hS1 : pF (pA (pA (pA (pA (pA S 43 nl (nI x.1)) 44 nl x2) 45 nl (nI x.2.1)) 46 nl x4) 47 nl (mF S 49)) 48 (nI (nl + 1)) = S1
  have f1 : ∀ k, k ≠ 48 → mF S1 k = mF S k := fun k hk => by rw [← hS1, mF_F, if_neg hk]; rfl
  have f2 : mF S1 48 = nI (nl + 1) := by rw [← hS1]; rfl
  have f3 : mL S1 = mL S := by rw [← hS1]; rfl
  have f4 : ∀ r, ¬ (43 ≤ r ∧ r ≤ 47) → mA S1 r = mA S r := fun r hr => by rw [← hS1, mA_F, mA_Ane _ _ _ (by omega), mA_Ane _ _ _ (by omega), mA_Ane _ _ _ (by omega), mA_Ane _ _ _ (by omega), mA_Ane _ _ _ (by omega)]
  have f5 : ∀ i, i < nl + 1 → R5 S1 i (ins e nl x i) := fun i hi => by
    rw [← hS1]
    by_cases q : i = nl
    · have : ins e nl x i = x := by unfold ins; rw [if_neg (by omega), if_pos q]
      rw [this, q]
      unfold R5
      simp only [mA_F, mA_A]
      simp
      exact ⟨hx2, hx4, h49⟩
    · have : ins e nl x i = e i := by unfold ins; rw [if_pos (by omega)]
      rw [this]
      have := hr i (by omega)
      unfold R5 at this ⊢
      simp only [mA_F, mA_A]
      simp [q]
      exact this
  obtain ⟨p, S', q1, q2, q3, q4, q5, q6, q7, q8⟩ := la_loop (S0 := S1) N hn hb hx hs hne nl N S1 (Nat.le_refl _) (by omega) rfl rfl (fun _ _ => rfl) f5 (fun i g1 g2 => by omega)
  exact ⟨p, S', q1, q2, by rw [q3]; exact f2, fun k hk => by rw [q3]; exact f1 k hk, q4.trans f3, fun r hr => (q5 r hr).trans (f4 r hr), q6, q7, q8⟩
