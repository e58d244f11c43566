/-! after a fault the reference's parser ends without effect -/
/-- what emit leaves, at place i of both banks -/
def emS (S : Ms) (i rc : Nat) (x1 x2 x3 : Int32) : Ms := pF (pA (pA (pA S 39 i x1) 40 i x2) 41 i x3) 38 (nI (rc + 1))
theorem em_ok {S : Ms} {cf rc : Nat} (h42 : mF S 42 = nI cf) (h38 : mF S 38 = nI rc) (hi : cf + rc < 20000) (N : Nat) (x1 x2 x3 : Int32) : fM_emit N x1 x2 x3 S = some (nI rc, emS S (cf + rc) rc x1 x2 x3) := by
  have e : nI cf + nI rc = nI (cf + rc) := nI_add cf rc
  have c : (nI (cf + rc)).toNatClampNeg = cf + rc := nI_clamp (by omega)
  have k : ∀ {ρ : Type} (q : Option ρ), ck (nI (cf + rc)) 20000 q = q := fun q => ck_n hi (by decide)
  unfold fM_emit emS
  simp only [mF_A, h42, h38, e, c, k, nI_1]
  have e1 : mF (pF (pA (pA (pA S 39 (cf + rc) x1) 40 (cf + rc) x2) 41 (cf + rc) x3) 38 (nI (rc + 1))) 38 = nI (rc + 1) := rfl
  rw [e1, show (1 : Int32) = nI 1 from rfl, nI_sub (by omega) (by omega)]
  rfl
section DEAD
variable {S : Ms} {f : Nat}
theorem pm1 (v : Int32) : v + 1 - 1 = v := by rw [Int32.sub_eq_add_neg, Int32.add_assoc]; rw [show (1 : Int32) + -1 = 0 from rfl, Int32.add_zero]
theorem d_deep : pF (pF S 50 (mF S 50 + 1)) 50 (mF (pF S 50 (mF S 50 + 1)) 50 - 1) = S := by
  have e : mF (pF S 50 (mF S 50 + 1)) 50 = mF S 50 + 1 := rfl
  rw [e, pm1, pF_pF, pF_self]
theorem d_within (h : DS S f) (N : Nat) : fM_within N 0 S = some (pF S 50 (mF S 50 + 1)) := by
  unfold fM_within bM_within_26
  rw [if_pos rfl, d_wrong h, bs]
theorem d_part (h : DS S f) (N : Nat) (hN : 1 < N) (GP : Nat → Ms → Option Ms) : fM_part N GP S = some S := by
  unfold fM_part
  rw [d_isN h N hN, bs]
  dsimp only
  rw [if_pos rfl]
  unfold bM_part_46 bM_part_123 bM_part_124 bM_part_146
  have h' : ¬ mF (pF S 50 (mF S 50 + 1)) 8 = 0 := h.n0
  rw [if_neg h.n0, d_within h, bs, if_neg h', d_deep]
theorem d_product (h : DS S f) (N : Nat) (hN : 1 < N) {GP : Nat → Ms → Option Ms} (hG : GP 8 S = some S) : fM_product N GP S = some S := by
  unfold fM_product bM_product_87
  obtain ⟨n, rfl⟩ : ∃ n, N = n + 1 := ⟨N - 1, by omega⟩
  rw [hG, bs, lM_product_4, d_isS h, bs]
  dsimp only
  rw [if_pos rfl, d_isS h, bs]
  dsimp only
  rw [if_pos rfl, d_isS h, bs]
  dsimp only
  rw [if_pos rfl]
theorem d_sum (h : DS S f) (N : Nat) (hN : 1 < N) {GP : Nat → Ms → Option Ms} (hG : GP 7 S = some S) : fM_sum N GP S = some S := by
  unfold fM_sum bM_sum_64
  obtain ⟨n, rfl⟩ : ∃ n, N = n + 1 := ⟨N - 1, by omega⟩
  rw [hG, bs, lM_sum_4, d_isS h, bs]
  dsimp only
  rw [if_pos rfl, d_isS h, bs]
  dsimp only
  rw [if_pos rfl]
theorem d_expr (h : DS S f) (N : Nat) {GP : Nat → Ms → Option Ms} (hG : GP 6 S = some S) : fM_expression N GP S = some S := by
  unfold fM_expression bM_expression_56
  rw [hG, bs, d_isS h, bs]
  dsimp only
  rw [if_pos rfl, d_isS h, bs]
  dsimp only
  rw [if_pos rfl]
theorem d_set (h : DS S f) (N : Nat) (hN : 1 < N) (GP : Nat → Ms → Option Ms) : fM_set N GP S = some S := by
  unfold fM_set
  rw [d_isN h N hN, bs]
  dsimp only
  rw [if_pos rfl, d_wrong h, bs]
theorem d_plain (h : DS S f) (N : Nat) {GP : Nat → Ms → Option Ms} (hG : GP 4 S = some S) : fM_plain N GP S = some S := by
  unfold fM_plain bM_plain_145
  rw [d_hW h, bs]
  dsimp only
  rw [if_pos rfl, d_hW h, bs]
  dsimp only
  rw [if_pos rfl, d_hW h, bs]
  dsimp only
  rw [if_pos rfl, d_hW h, bs]
  dsimp only
  rw [if_pos rfl, hG, bs]
theorem d_block (h : DS S f) (N : Nat) (hN : 1 < N) (GP : Nat → Ms → Option Ms) : fM_block N GP S = some S := by
  unfold fM_block
  have h' : DS (pF S 50 (mF S 50 + 1)) f := h
  obtain ⟨n, rfl⟩ : ∃ n, N = n + 1 := ⟨N - 1, by omega⟩
  rw [d_isS h, bs]
  dsimp only
  rw [d_within h, bs, d_tS h', bs, lM_block_16, if_neg h'.n0]
  unfold bM_block_39
  rw [d_tS h', bs, d_deep]
/-- with fuel k + 4 all of them -/
theorem gd8 (h : DS S f) (N : Nat) (hN : 1 < N) (k : Nat) : gP N (k + 1) 8 S = some S := by
  rw [gP]; exact d_part h N hN _
theorem gd7 (h : DS S f) (N : Nat) (hN : 1 < N) (k : Nat) : gP N (k + 2) 7 S = some S := by
  rw [gP]; exact d_product h N hN (gd8 h N hN k)
theorem gd6 (h : DS S f) (N : Nat) (hN : 1 < N) (k : Nat) : gP N (k + 3) 6 S = some S := by
  rw [gP]; exact d_sum h N hN (gd7 h N hN k)
theorem gd5 (h : DS S f) (N : Nat) (hN : 1 < N) (k : Nat) : gP N (k + 4) 5 S = some S := by
  rw [gP]; exact d_expr h N (gd6 h N hN k)
theorem gd4 (h : DS S f) (N : Nat) (hN : 1 < N) (k : Nat) : gP N (k + 1) 4 S = some S := by
  rw [gP]; exact d_set h N hN _
theorem gd3 (h : DS S f) (N : Nat) (hN : 1 < N) (k : Nat) : gP N (k + 2) 3 S = some S := by
  rw [gP]; exact d_plain h N (gd4 h N hN k)
theorem gd0 (h : DS S f) (N : Nat) (hN : 1 < N) (k : Nat) : gP N (k + 1) 0 S = some S := by
  rw [gP]; exact d_block h N hN _
theorem d_stmt (h : DS S f) (N : Nat) {cf rc : Nat} (h42 : mF S 42 = nI cf) (h38 : mF S 38 = nI rc) (hi : cf + rc < 20000) {GP : Nat → Ms → Option Ms} (hG : ∀ S', DS S' f → GP 3 S' = some S') : fM_statement N GP S = some (emS S (cf + rc) rc 1 0 0) := by
  have h' : DS (emS S (cf + rc) rc 1 0 0) f := h
  unfold fM_statement bM_statement_142
  rw [d_hW h, bs]
  dsimp only
  rw [if_pos rfl, em_ok h42 h38 hi, bs]
  dsimp only
  rw [d_hW h', bs]
  dsimp only
  rw [if_pos rfl, d_hW h', bs]
  dsimp only
  rw [if_pos rfl, hG _ h', bs, d_tS h', bs]
end DEAD
