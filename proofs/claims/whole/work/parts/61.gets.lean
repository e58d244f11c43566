/-! calls that only tell -/
theorem LY.k9 {z : Nat} {K : Ka} {M : Cm} (h : LY z K M) : kd K z = 9 := (h.1 0 (9, 0) rfl).1
theorem LY.k {z : Nat} {K : Ka} {M : Cm} (h : LY z K M) (i c l : Nat) (hc : lyK[i]? = some (c, l)) : kd K (z + i) = c := (h.1 i (c, l) hc).1
theorem LY.l {z : Nat} {K : Ka} {M : Cm} (h : LY z K M) (i c l : Nat) (hc : lyK[i]? = some (c, l)) (h20 : 20 < c) : le K (z + i) = l := (h.1 i (c, l) hc).2 h20
theorem LY.r {z : Nat} {K : Ka} {M : Cm} (h : LY z K M) (o s p : Nat) (hm : (o, s, p) ∈ lyR) : cR M (z + o) s = some (z + p) := h.2.1 (o, s, p) hm
theorem LY.r0 {z : Nat} {K : Ka} {M : Cm} (h : LY z K M) (s p : Nat) (hm : (0, s, p) ∈ lyR) : cR M z s = some (z + p) := h.2.1 (0, s, p) hm
def isUb (nu : Nat) (x : Int32) : Int32 := if x < 0 then 0 else if nI nu ≤ x then 0 else 1
theorem isUb_1 {nu : Nat} {x : Int32} (hn : nu ≤ 24) (h : ¬ isUb nu x = 0) : ∃ u, u < nu ∧ x = nI u := by
  unfold isUb at h
  by_cases h0 : x < 0
  · rw [if_pos h0] at h; exact absurd rfl h
  · rw [if_neg h0] at h
    by_cases h1 : nI nu ≤ x
    · rw [if_pos h1] at h; exact absurd rfl h
    · obtain ⟨j, hj, rfl⟩ := nI_of h0
      refine ⟨j, ?_, rfl⟩
      exact Nat.not_le.mp fun z => h1 (nI_le z hj)
theorem isUb_n {nu u : Nat} (hn : nu ≤ 24) (hu : u < nu) : isUb nu (nI u) = 1 := by
  unfold isUb
  rw [if_neg (nI_pos (by omega)), if_neg (nI_ge hu (by omega))]
theorem gd_e {ρ : Type} {a b : Int32} {k : Option ρ} (h : a = b) : gd (a == b) k = k := gd_t (beq_iff_eq.mpr h)
theorem fin {K : Ka} {M : Cm} {S' : Ms} {a b : Int32} (h : a = b) : ((some (a, M)).bind fun o1 : Int32 × Cm => (some (b, S')).bind fun q : Int32 × Ms => gd (o1.1 == q.1) (some (K, o1.2, q.2))) = some (K, M, S') := gd_e h
theorem no4 {p q r s : Prop} (h1 : ¬ p) (h2 : ¬ q) (h3 : ¬ r) (h4 : ¬ s) : ¬ (p ∨ q ∨ r ∨ s) := fun h => h.elim h1 (fun h => h.elim h2 (fun h => h.elim h3 h4))
section GETS
variable {z : Nat} {K : Ka} {M : Cm} {S : Ms} {b st nd nu nm : Nat}
theorem c_isU (h : RelP z K M S b st nd nu nm) (N : Nat) (x : Int32) : fC_X8_isUnit N K z x M = some (isUb nu x, M) := by
  obtain ⟨hLY, -, -, -, -, -, -, -, -, -, -, -, hSA, -⟩ := h
  obtain ⟨-, -, s3, -, s5, -, -, -, -, -, s11, -⟩ := hSA
  unfold fC_X8_isUnit isUb bC_X8_isUnit_19 bC_X8_isUnit_20
  by_cases h0 : x < 0
  · rw [if_pos h0, if_pos h0]; rfl
  · rw [if_neg h0, if_neg h0, gd_k hLY.k9, nn_s s3, gd_k s5, s11]
    by_cases h1 : nI nu ≤ x
    · rw [if_pos h1, if_pos h1]; rfl
    · rw [if_neg h1, if_neg h1]; rfl
theorem m_isU (hb : b = 0 ∨ b = 1) (hn : mF S 11 = nI b) (hu : mA S 18 b = nI nu) (N : Nat) (x : Int32) : fM_isUnit N x S = some (isUb nu x, S) := by
  unfold fM_isUnit isUb bM_isUnit_21 bM_isUnit_22
  by_cases h0 : x < 0
  · rw [if_pos h0, if_pos h0]; rfl
  · rw [if_neg h0, if_neg h0, hn, ck_n (by omega) (by decide), nI_clamp (by omega), hu]
    by_cases h1 : nI nu ≤ x
    · rw [if_pos h1, if_pos h1]; rfl
    · rw [if_neg h1, if_neg h1]; rfl
theorem g_ended (h : RelP z K M S b st nd nu nm) (N : Nat) (v1 : Int32) : fS_ended N z v1 K M S = some (K, M, pF S 0 0) := by
  obtain ⟨hLY, hR1, -⟩ := h
  obtain ⟨-, e1, e2, -⟩ := hR1
  unfold fS_ended fC_X8_ended fM_ended bC_X8_ended_22 bM_ended_29
  rw [gd_k hLY.k9]
  by_cases h0 : v1 = 0
  · rw [if_pos h0, if_pos h0, gd_k hLY.k9]
    exact fin e1
  · rw [if_neg h0, if_neg h0]
    by_cases h1 : v1 = 1
    · rw [if_pos h1, if_pos h1, gd_k hLY.k9]
      exact fin e2
    · rw [if_neg h1, if_neg h1]
      exact fin rfl
theorem g_foreseen (h : RelP z K M S b st nd nu nm) (N : Nat) (v1 : Int32) : fS_foreseen N z v1 K M S = some (K, M, pF S 0 0) := by
  obtain ⟨hLY, -, -, -, hRF, -⟩ := h
  obtain ⟨n, n24, f1, f2, f3⟩ := hRF
  have f2' : mF (pF S 0 0) 101 = nI n := f2
  unfold fS_foreseen fC_X8_foreseen fM_foreseen bC_X8_foreseen_12 bC_X8_foreseen_22 bM_foreseen_17 bM_foreseen_27
  rw [gd_k hLY.k9]
  by_cases h0 : v1 < 0
  · rw [if_pos h0, if_pos h0]
    exact fin rfl
  · rw [if_neg h0, if_neg h0, gd_k hLY.k9, f1, f2']
    by_cases h1 : v1 < nI n
    · obtain ⟨j, hj, rfl⟩ := nI_of h0
      have hjn : j < n := (nI_ltI hj (by omega)).mp h1
      rw [if_pos h1, if_pos h1, nn_s (hLY.r0 6 88 (by decide)), gd_k hLY.2.2.2.1, hLY.2.2.2.2, ck_n (by omega) (by decide), ck_n (by omega) (by decide), nI_clamp hj]
      exact fin (f3 j hjn)
    · rw [if_neg h1, if_neg h1]
      exact fin rfl
/-- a row of a table in the books, or NONE -/
theorem c_at (N : Nat) {a n w len : Nat} (x3 x4 : Int32) (hk : kd K a = 22) (hl : le K a = len) (hw : n * w ≤ len) (hn : n < 2 ^ 31) (hw2 : w < 2 ^ 31) (hlen : len < 2 ^ 31) : fC_X0_at N K a (nI n) (nI w) x3 x4 M = some (if x3 < 0 ∨ nI n ≤ x3 ∨ x4 < 0 ∨ nI w ≤ x4 then -1 else cI M a (x3.toNatClampNeg * w + x4.toNatClampNeg), M) := by
  unfold fC_X0_at bC_X0_at_24 bC_X0_at_25 bC_X0_at_44
  by_cases h1 : x3 < 0
  · rw [if_pos h1, if_pos (Or.inl h1)]; rfl
  · rw [if_neg h1]
    by_cases h2 : nI n ≤ x3
    · rw [if_pos h2, if_pos (Or.inr (Or.inl h2))]; rfl
    · rw [if_neg h2]
      by_cases h3 : x4 < 0
      · rw [if_pos h3, if_pos (Or.inr (Or.inr (Or.inl h3)))]; rfl
      · rw [if_neg h3]
        by_cases h4 : nI w ≤ x4
        · rw [if_pos h4, if_pos (Or.inr (Or.inr (Or.inr h4)))]; rfl
        · rw [if_neg h4, if_neg (show ¬ ((1 : Int32) = 0) by decide), gd_k hk, hl, if_neg (no4 h1 h2 h3 h4)]
          obtain ⟨i, hi, rfl⟩ := nI_of h1
          obtain ⟨j, hj, rfl⟩ := nI_of h3
          have hin : i < n := Nat.not_le.mp fun q => h2 (nI_le q hi)
          have hjw : j < w := Nat.not_le.mp fun q => h4 (nI_le q hj)
          have hlt : i * w + j < len := by
            have : (i + 1) * w ≤ n * w := Nat.mul_le_mul_right w hin
            rw [Nat.add_mul] at this
            omega
          rw [nI_mul, nI_add, ck_n hlt hlen, nI_clamp (by omega), nI_clamp hi, nI_clamp hj]
theorem g_up (h : RelP z K M S b st nd nu nm) (N : Nat) (v1 v2 : Int32) : fS_up N z v1 v2 K M S = some (K, M, pF S 0 0) := by
  obtain ⟨hLY, -, -, -, -, hRU, -⟩ := h
  obtain ⟨n, n7, f1, f2, f3⟩ := hRU
  have f2' : mF (pF S 0 0) 75 = nI n := f2
  have ec : fC_X8_up N K z v1 v2 M = some (if v1 < 0 ∨ nI n ≤ v1 ∨ v2 < 0 ∨ nI 3 ≤ v2 then -1 else cI M (z + 31) (v1.toNatClampNeg * 3 + v2.toNatClampNeg), M) := by
    unfold fC_X8_up fC_X0_upAt
    rw [gd_k hLY.k9, nn_s (hLY.r0 4 30 (by decide)), gd_k (hLY.k 30 1 0 rfl), gd_k (hLY.k 30 1 0 rfl), nn_s (hLY.r 30 0 31 (by decide)), f1, show (3 : Int32) = nI 3 from rfl, c_at N v1 v2 (hLY.k 31 22 2232 rfl) (hLY.l 31 22 2232 rfl (by decide)) (by omega) (by omega) (by decide) (by decide)]
    rfl
  unfold fS_up
  rw [gd_k hLY.k9, ec]
  unfold fM_up bM_up_17 bM_up_61
  by_cases h1 : v1 < 0
  · rw [if_pos h1, if_pos (Or.inl h1)]
    exact fin rfl
  · rw [if_neg h1, f2']
    by_cases h2 : nI n ≤ v1
    · rw [if_neg (Int32.not_lt.mpr h2), if_pos (Or.inr (Or.inl h2))]
      exact fin rfl
    · obtain ⟨i, hi, rfl⟩ := nI_of h1
      have hin : i < n := Nat.not_le.mp fun q => h2 (nI_le q hi)
      obtain ⟨g0, g1, g2⟩ := f3 i hin
      rw [if_pos (Int32.not_le.mp h2), nI_clamp hi, ck_n (show i < 800 by omega) (by decide), ck_n (show i < 800 by omega) (by decide), ck_n (show i < 800 by omega) (by decide)]
      by_cases e0 : v2 = 0
      · subst e0
        rw [if_pos rfl, if_neg (no4 h1 h2 (by decide) (by decide))]
        exact fin g0
      · rw [if_neg e0]
        by_cases e1 : v2 = 1
        · subst e1
          rw [if_pos rfl, if_neg (no4 h1 h2 (by decide) (by decide))]
          exact fin g1
        · rw [if_neg e1]
          by_cases e2 : v2 = 2
          · subst e2
            rw [if_pos rfl, if_neg (no4 h1 h2 (by decide) (by decide))]
            exact fin g2
          · rw [if_neg e2, if_pos]
            · exact fin rfl
            · by_cases h3 : v2 < 0
              · exact Or.inr (Or.inr (Or.inl h3))
              · obtain ⟨j, hj, rfl⟩ := nI_of h3
                refine Or.inr (Or.inr (Or.inr (nI_le ?_ hj)))
                have a0 : j ≠ 0 := fun q => e0 (by rw [q]; rfl)
                have a1 : j ≠ 1 := fun q => e1 (by rw [q]; rfl)
                have a2 : j ≠ 2 := fun q => e2 (by rw [q]; rfl)
                omega
end GETS
