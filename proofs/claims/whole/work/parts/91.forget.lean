/-! forget -/
section FORGET
variable {S : Ms} {b : Nat}
/-- one unit and device forgotten -/
def fg1 (S : Ms) (b u : Nat) : Ms := pA (pA (pA (pA (pA (pA (pA S 54 u 0) 55 u 0) 57 u 0) 58 u 0) 60 u 0) 61 u (mA S 15 (24 * b + u))) 62 u (mA S 15 (24 * b + u))
theorem fg1_step (N : Nat) (k81 : Ms → Option Ms) (n : Nat) {u : Nat} (hu : u < 24) (hb : b < 2) (h11 : mF S 11 = nI b) : lM_forget_2 N k81 (n + 1) (nI u) S = lM_forget_2 N k81 n (nI (u + 1)) (fg1 S b u) := by
  have c : (nI u).toNatClampNeg = u := nI_clamp (by omega)
  have k : ∀ {ρ : Type} (q : Option ρ), ck (nI u) 24 q = q := fun q => ck_n hu (by decide)
  have k2 : ∀ {ρ : Type} (q : Option ρ), ck (nI (24 * b + u)) 48 q = q := fun q => ck_n (by omega) (by decide)
  have c2 : (nI (24 * b + u)).toNatClampNeg = 24 * b + u := nI_clamp (by omega)
  rw [lM_forget_2, if_neg (show ¬ (24 : Int32) ≤ nI u from nI_ge (b := 24) hu (by decide))]
  simp only [mF_A, h11, ix24, c, c2, k, k2, nI_1]
  have e15 : mA (pA (pA (pA (pA (pA S 54 u 0) 55 u 0) 57 u 0) 58 u 0) 60 u 0) 15 (24 * b + u) = mA S 15 (24 * b + u) := by
    rw [mA_Ane _ _ _ (by decide), mA_Ane _ _ _ (by decide), mA_Ane _ _ _ (by decide), mA_Ane _ _ _ (by decide), mA_Ane _ _ _ (by decide)]
  rw [e15]
  have e61 : mA (pA (pA (pA (pA (pA (pA S 54 u 0) 55 u 0) 57 u 0) 58 u 0) 60 u 0) 61 u (mA S 15 (24 * b + u))) 61 u = mA S 15 (24 * b + u) := by
    rw [mA_A, if_pos ⟨rfl, rfl⟩]
  rw [e61]
  rfl
def fgZ (S' : Ms) (x : Int32) (v : Nat) : Prop := mA S' 54 v = 0 ∧ mA S' 55 v = 0 ∧ mA S' 57 v = 0 ∧ mA S' 58 v = 0 ∧ mA S' 60 v = 0 ∧ mA S' 61 v = x ∧ mA S' 62 v = x
theorem fg1_z (u : Nat) : fgZ (fg1 S b u) (mA S 15 (24 * b + u)) u := by
  unfold fgZ fg1
  simp [mA_A]
theorem fg1_o (u : Nat) {v : Nat} (hv : v ≠ u) (x : Int32) (h : fgZ S x v) : fgZ (fg1 S b u) x v := by
  unfold fgZ fg1 at *
  simpa [mA_A, hv] using h
theorem fg1_ag (u : Nat) : AgS (fun _ => True) (fun k => k ≠ 54 ∧ k ≠ 55 ∧ k ≠ 57 ∧ k ≠ 58 ∧ k ≠ 60 ∧ k ≠ 61 ∧ k ≠ 62) S (fg1 S b u) := by
  unfold fg1
  refine ⟨fun _ _ => rfl, fun k hk => ?_, fun _ _ => rfl⟩
  rw [mA_Ane _ _ _ hk.2.2.2.2.2.2, mA_Ane _ _ _ hk.2.2.2.2.2.1, mA_Ane _ _ _ hk.2.2.2.2.1, mA_Ane _ _ _ hk.2.2.2.1, mA_Ane _ _ _ hk.2.2.1, mA_Ane _ _ _ hk.2.1, mA_Ane _ _ _ hk.1]
theorem fg_loop (N : Nat) (k81 : Ms → Option Ms) (hb : b < 2) (S0 : Ms) : ∀ (n u : Nat) (S : Ms), u ≤ 24 → 24 < n + u → mF S 11 = nI b → AgS (fun _ => True) (fun k => k ≠ 54 ∧ k ≠ 55 ∧ k ≠ 57 ∧ k ≠ 58 ∧ k ≠ 60 ∧ k ≠ 61 ∧ k ≠ 62) S0 S → (∀ v, v < u → fgZ S (mA S0 15 (24 * b + v)) v) →
    ∃ S', lM_forget_2 N k81 n (nI u) S = k81 S' ∧ AgS (fun _ => True) (fun k => k ≠ 54 ∧ k ≠ 55 ∧ k ≠ 57 ∧ k ≠ 58 ∧ k ≠ 60 ∧ k ≠ 61 ∧ k ≠ 62) S0 S' ∧ ∀ v, v < 24 → fgZ S' (mA S0 15 (24 * b + v)) v := by
  intro n
  induction n with
  | zero => intro u S h1 h2; omega
  | succ n ih =>
    intro u S h1 h2 h11 hA hz
    by_cases hu : u < 24
    · rw [fg1_step N k81 n hu hb h11]
      have a1 := fg1_ag (S := S) (b := b) u
      refine ih (u + 1) (fg1 S b u) (by omega) (by omega) h11 ⟨fun k hk => (a1.1 k hk).trans (hA.1 k hk), fun k hk => (a1.2.1 k hk).trans (hA.2.1 k hk), fun k hk => (a1.2.2 k hk).trans (hA.2.2 k hk)⟩ (fun v hv => ?_)
      by_cases e : v = u
      · subst e
        have := fg1_z (S := S) (b := b) v
        rw [hA.2.1 15 (by decide)] at this
        exact this
      · exact fg1_o u e _ (hz v (by omega))
    · have e : u = 24 := by omega
      subst e
      rw [lM_forget_2, if_pos (show (24 : Int32) ≤ nI 24 by decide)]
      exact ⟨S, rfl, hA, hz⟩
end FORGET
