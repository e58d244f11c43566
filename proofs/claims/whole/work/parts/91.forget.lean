/-! forget -/
section FORGET
variable {S : Ms} {b : Nat}
/-- one unit and device forgotten -/
def fg1 (S : Ms) (b u : Nat) : Ms := pA (pA (pA (pA (pA (pA (pA S 54 u 0) 55 u 0) 57 u 0) 58 u 0) 60 u 0) 61 u (mA S 15 (24 * b + u))) 62 u (mA S 15 (24 * b + u))
theorem fg1_step (N : Nat) (k81 : Ms → Option Ms) (n : Nat) {u : Nat} (hu : u < 24) (hb : b < 2) (h11 : mF S 11 = nI b) : lM_forget_2 N k81 (n + 1) (nI u) S = lM_forget_2 N k81 n (nI (u + 1)) (fg1 S b u) := by
  have c : (nI u).toNatClampNeg = u := nI_clamp (by omega)
  have k : ∀ {ρ : Type} (q : Option ρ), ck (nI u) 24 q = q := fun q => ck_n hu (by decide)
  have k2 : ∀ {ρ : Type} (q : Option ρ), ck (nI (24 * b + u)) 48 q = q := fun q => ck_n (by omega) (by decide)
  have c2 : (nI (24 * b + u)).toNatClampNeg = 24 * b + u := nI_clamp (by omega)
  rw [lM_forget_2, if_neg (show ¬ (24 : Int32) ≤ nI u from nI_ge (b := 24) hu (by decide))]
  simp only [mF_A, h11, ix24, c, c2, k, k2, nI_1]
  have e15 : mA (pA (pA (pA (pA (pA S 54 u 0) 55 u 0) 57 u 0) 58 u 0) 60 u 0) 15 (24 * b + u) = mA S 15 (24 * b + u) := by
    rw [mA_Ane _ _ _ (by decide), mA_Ane _ _ _ (by decide), mA_Ane _ _ _ (by decide), mA_Ane _ _ _ (by decide), mA_Ane _ _ _ (by decide)]
  rw [e15]
  have e61 : mA (pA (pA (pA (pA (pA (pA S 54 u 0) 55 u 0) 57 u 0) 58 u 0) 60 u 0) 61 u (mA S 15 (24 * b + u))) 61 u = mA S 15 (24 * b + u) := by
    rw [mA_A, if_pos ⟨rfl, rfl⟩]
  rw [e61]
  rfl
def fgZ (S' : Ms) (x : Int32) (v : Nat) : Prop := mA S' 54 v = 0 ∧ mA S' 55 v = 0 ∧ mA S' 57 v = 0 ∧ mA S' 58 v = 0 ∧ mA S' 60 v = 0 ∧ mA S' 61 v = x ∧ mA S' 62 v = x
theorem fg1_z (u : Nat) : fgZ (fg1 S b u) (mA S 15 (24 * b + u)) u := by
  unfold fgZ fg1
  simp [mA_A]
theorem fg1_o (u : Nat) {v : Nat} (hv : v ≠ u) (x : Int32) (h : fgZ S x v) : fgZ (fg1 S b u) x v := by
  unfold fgZ fg1 at *
  simpa [mA_A, hv] using h
theorem fg1_ag (u : Nat) : AgS (fun _ => True) (fun k => k ≠ 54 ∧ k ≠ 55 ∧ k ≠ 57 ∧ k ≠ 58 ∧ k ≠ 60 ∧ k ≠ 61 ∧ k ≠ 62) S (fg1 S b u) := by
  unfold fg1
  refine ⟨fun _ _ => rfl, fun k hk => ?_, fun _ _ => rfl⟩
  rw [mA_Ane _ _ _ hk.2.2.2.2.2.2, mA_Ane _ _ _ hk.2.2.2.2.2.1, mA_Ane _ _ _ hk.2.2.2.2.1, mA_Ane _ _ _ hk.2.2.2.1, mA_Ane _ _ _ hk.2.2.1, mA_Ane _ _ _ hk.2.1, mA_Ane _ _ _ hk.1]
theorem fg_loop (N : Nat) (k81 : Ms → Option Ms) (hb : b < 2) (S0 : Ms) : ∀ (n u : Nat) (S : Ms), u ≤ 24 → 24 < n + u → mF S 11 = nI b → AgS (fun _ => True) (fun k => k ≠ 54 ∧ k ≠ 55 ∧ k ≠ 57 ∧ k ≠ 58 ∧ k ≠ 60 ∧ k ≠ 61 ∧ k ≠ 62) S0 S → (∀ v, v < u → fgZ S (mA S0 15 (24 * b + v)) v) →
    ∃ S', lM_forget_2 N k81 n (nI u) S = k81 S' ∧ AgS (fun _ => True) (fun k => k ≠ 54 ∧ k ≠ 55 ∧ k ≠ 57 ∧ k ≠ 58 ∧ k ≠ 60 ∧ k ≠ 61 ∧ k ≠ 62) S0 S' ∧ ∀ v, v < 24 → fgZ S' (mA S0 15 (24 * b + v)) v := by
  intro n
  induction n with
  | zero => intro u S h1 h2; omega
  | succ n ih =>
    intro u S h1 h2 h11 hA hz
    by_cases hu : u < 24
    · rw [fg1_step N k81 n hu hb h11]
      have a1 := fg1_ag (S := S) (b := b) u
      refine ih (u + 1) (fg1 S b u) (by omega) (by omega) h11 ⟨fun k hk => (a1.1 k hk).trans (hA.1 k hk), fun k hk => (a1.2.1 k hk).trans (hA.2.1 k hk), fun k hk => (a1.2.2 k hk).trans (hA.2.2 k hk)⟩ (fun v hv => ?_)
      by_cases e : v = u
      · subst e
        have := fg1_z (S := S) (b := b) v
        rw [hA.2.1 15 (by decide)] at this
        exact this
      · exact fg1_o u e _ (hz v (by omega))
    · have e : u = 24 := by omega
      subst e
      rw [lM_forget_2, if_pos (show (24 : Int32) ≤ nI 24 by decide)]
      exact ⟨S, rfl, hA, hz⟩
theorem fg_cells (N : Nat) (k103 : Ms → Option Ms) : ∀ (n i : Nat) (S : Ms), i ≤ 192 → 192 < n + i → (∀ j, j < i → mA S 56 j = 0) → ∃ S', lM_forget_83 N k103 n (nI i) S = k103 S' ∧ AgS (fun _ => True) (fun k => k ≠ 56) S S' ∧ ∀ j, j < 192 → mA S' 56 j = 0 := by
  intro n
  induction n with
  | zero => intro i S h1 h2; omega
  | succ n ih =>
    intro i S h1 h2 hz
    rw [lM_forget_83]
    by_cases hi : i < 192
    · rw [if_neg (show ¬ (192 : Int32) ≤ nI i from nI_ge (b := 192) hi (by decide)), ck_n hi (by decide), nI_clamp (by omega), nI_1]
      obtain ⟨S', a1, a2, a3⟩ := ih (i + 1) (pA S 56 i 0) (by omega) (by omega) (fun j hj => by
        rw [mA_A]
        by_cases e : j = i
        · rw [if_pos ⟨rfl, e⟩]
        · rw [if_neg (fun q => e q.2)]; exact hz j (by omega))
      exact ⟨S', a1, ⟨fun k hk => by rw [a2.1 k hk, mF_A], fun k hk => by rw [a2.2.1 k hk, mA_Ane _ _ _ hk], fun k hk => by rw [a2.2.2 k hk, mL_A]⟩, a3⟩
    · have e : i = 192 := by omega
      subst e
      rw [if_pos (show (192 : Int32) ≤ nI 192 by decide)]
      exact ⟨S, rfl, ⟨fun _ _ => rfl, fun _ _ => rfl, fun _ _ => rfl⟩, hz⟩
/-- what forget leaves -/
theorem fg_ok (N : Nat) (hN : 192 < N) (hb : b < 2) (h11 : mF S 11 = nI b) : ∃ S', fM_forget N S = some S' ∧ AgS (fun k => k ≠ 63 ∧ k ≠ 64 ∧ k ≠ 66 ∧ k ≠ 71 ∧ k ≠ 75 ∧ k ≠ 79 ∧ k ≠ 84 ∧ k ≠ 87 ∧ k ≠ 88 ∧ k ≠ 89 ∧ k ≠ 101) (fun k => k ≠ 54 ∧ k ≠ 55 ∧ k ≠ 56 ∧ k ≠ 57 ∧ k ≠ 58 ∧ k ≠ 60 ∧ k ≠ 61 ∧ k ≠ 62) S S' ∧ (∀ v, v < 24 → fgZ S' (mA S 15 (24 * b + v)) v) ∧ (∀ j, j < 192 → mA S' 56 j = 0) ∧ ∀ k, k = 63 ∨ k = 64 ∨ k = 66 ∨ k = 71 ∨ k = 75 ∨ k = 79 ∨ k = 84 ∨ k = 87 ∨ k = 88 ∨ k = 89 ∨ k = 101 → mF S' k = 0 := by
  obtain ⟨S1, a1, a2, a3⟩ := fg_loop N (bM_forget_81 N) hb S N 0 S (by omega) (by omega) h11 ⟨fun _ _ => rfl, fun _ _ => rfl, fun _ _ => rfl⟩ (fun v hv => by omega)
  obtain ⟨S2, c1, c2, c3⟩ := fg_cells N (bM_forget_103 N) N 0 S1 (by omega) (by omega) (fun j hj => by omega)
  refine ⟨pF (pF (pF (pF (pF (pF (pF (pF (pF (pF (pF S2 63 0) 64 0) 66 0) 71 0) 75 0) 79 0) 84 0) 87 0) 88 0) 89 0) 101 0, ?_, ⟨fun k hk => ?_, fun k hk => ?_, fun k hk => ?_⟩, fun v hv => ?_, c3, fun k hk => ?_⟩
  · have e1 : fM_forget N S = bM_forget_81 N S1 := a1
    have e2 : bM_forget_81 N S1 = bM_forget_103 N S2 := c1
    rw [e1, e2]
    rfl
  · obtain ⟨h1, h2, h3, h4, h5, h6, h7, h8, h9, h10, h12⟩ := hk
    rw [mF_F, if_neg h12, mF_F, if_neg h10, mF_F, if_neg h9, mF_F, if_neg h8, mF_F, if_neg h7, mF_F, if_neg h6, mF_F, if_neg h5, mF_F, if_neg h4, mF_F, if_neg h3, mF_F, if_neg h2, mF_F, if_neg h1, c2.1 k trivial, a2.1 k trivial]
  · show mA S2 k = mA S k
    rw [c2.2.1 k hk.2.2.1, a2.2.1 k ⟨hk.1, hk.2.1, hk.2.2.2.1, hk.2.2.2.2.1, hk.2.2.2.2.2.1, hk.2.2.2.2.2.2.1, hk.2.2.2.2.2.2.2⟩]
  · show mL S2 k = mL S k
    rw [c2.2.2 k hk.2.2.1, a2.2.2 k ⟨hk.1, hk.2.1, hk.2.2.2.1, hk.2.2.2.2.1, hk.2.2.2.2.2.1, hk.2.2.2.2.2.2.1, hk.2.2.2.2.2.2.2⟩]
  · have h := a3 v hv
    show fgZ S2 _ v
    unfold fgZ at h ⊢
    rw [c2.2.1 54 (by decide), c2.2.1 55 (by decide), c2.2.1 57 (by decide), c2.2.1 58 (by decide), c2.2.1 60 (by decide), c2.2.1 61 (by decide), c2.2.1 62 (by decide)]
    exact h
  · rcases hk with rfl | rfl | rfl | rfl | rfl | rfl | rfl | rfl | rfl | rfl | rfl <;> rfl
end FORGET
