/-! forget -/
section FORGET
variable {S : Ms} {b : Nat}
/-- one unit and device forgotten -/
def fg1 (S : Ms) (b u : Nat) : Ms := pA (pA (pA (pA (pA (pA (pA S 54 u 0) 55 u 0) 57 u 0) 58 u 0) 60 u 0) 61 u (mA S 15 (24 * b + u))) 62 u (mA S 15 (24 * b + u))
theorem fg1_step (N : Nat) (k81 : Ms → Option Ms) (n : Nat) {u : Nat} (hu : u < 24) (hb : b < 2) (h11 : mF S 11 = nI b) : lM_forget_2 N k81 (n + 1) (nI u) S = lM_forget_2 N k81 n (nI (u + 1)) (fg1 S b u) := by
  have c : (nI u).toNatClampNeg = u := nI_clamp (by omega)
  have k : ∀ {ρ : Type} (q : Option ρ), ck (nI u) 24 q = q := fun q => ck_n hu (by decide)
  have k2 : ∀ {ρ : Type} (q : Option ρ), ck (nI (24 * b + u)) 48 q = q := fun q => ck_n (by omega) (by decide)
  have c2 : (nI (24 * b + u)).toNatClampNeg = 24 * b + u := nI_clamp (by omega)
  rw [lM_forget_2, if_neg (show ¬ (24 : Int32) ≤ nI u from nI_ge (b := 24) hu (by decide))]
  simp only [mF_A, h11, ix24, c, c2, k, k2, nI_1]
  have e15 : mA (pA (pA (pA (pA (pA S 54 u 0) 55 u 0) 57 u 0) 58 u 0) 60 u 0) 15 (24 * b + u) = mA S 15 (24 * b + u) := by
    rw [mA_Ane _ _ _ (by decide), mA_Ane _ _ _ (by decide), mA_Ane _ _ _ (by decide), mA_Ane _ _ _ (by decide), mA_Ane _ _ _ (by decide)]
  rw [e15]
  have e61 : mA (pA (pA (pA (pA (pA (pA S 54 u 0) 55 u 0) 57 u 0) 58 u 0) 60 u 0) 61 u (mA S 15 (24 * b + u))) 61 u = mA S 15 (24 * b + u) := by
    rw [mA_A, if_pos ⟨rfl, rfl⟩]
  rw [e61]
  rfl
end FORGET
