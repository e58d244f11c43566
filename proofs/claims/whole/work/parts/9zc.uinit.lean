/-! a new unit of the class -/
/-- its cells -/
def uK (K : Ka) : Ka := kNew (kNew (kNew (kNew (kNew (kNew (kNew K 8 0 (cN 7)) 22 6 6) 23 8 8) 22 8 8) 24 8 8) 22 0 0) 22 0 0
def uM6 (M : Cm) (tu : Nat) : Cm := wI (wI (wI (wI (wR (mZ (wR (mZ (wR (mZ (wR (mZ (mZ M tu) (tu + 1)) tu 2 (some (tu + 1))) (tu + 2)) tu 3 (some (tu + 2))) (tu + 3)) tu 4 (some (tu + 3))) (tu + 4)) tu 5 (some (tu + 4))) tu 6 (-1)) tu 7 0) tu 8 0) tu 9 0
def uM (M : Cm) (tu : Nat) (x1 x2 : Int32) : Cm := wI (wI (wI (wI (wR (mZ (wR (mZ (uM6 M tu) (tu + 5)) tu 10 (some (tu + 5))) (tu + 6)) tu 11 (some (tu + 6))) tu 12 0) tu 13 (-1)) tu 0 x1) tu 1 x2
theorem uK_z (K : Ka) : kz (uK K) = kz K + 7 := rfl
theorem uK_ke (K : Ka) : KE K (uK K) := ((((((KE.new _ _ _ _).tr (KE.new _ _ _ _)).tr (KE.new _ _ _ _)).tr (KE.new _ _ _ _)).tr (KE.new _ _ _ _)).tr (KE.new _ _ _ _)).tr (KE.new _ _ _ _)
theorem uK_kd (K : Ka) : kd (uK K) (kz K) = 8 ∧ (∀ sl kind len, (sl, kind, len) ∈ ([(2, 22, 6), (3, 23, 8), (4, 22, 8), (5, 24, 8)] : List (Nat × Nat × Nat)) → kd (uK K) (kz K + sl - 1) = kind ∧ le (uK K) (kz K + sl - 1) = len) := by
  unfold uK
  refine ⟨?_, fun sl kind len h => ?_⟩
  · simp only [kd_n, kz_n]
    rw [if_neg (by omega), if_neg (by omega), if_neg (by omega), if_neg (by omega), if_neg (by omega), if_neg (by omega), if_pos trivial]
  · simp only [List.mem_cons, List.not_mem_nil, or_false, Prod.mk.injEq] at h
    rcases h with ⟨rfl, rfl, rfl⟩ | ⟨rfl, rfl, rfl⟩ | ⟨rfl, rfl, rfl⟩ | ⟨rfl, rfl, rfl⟩
    · rw [show kz K + 2 - 1 = kz K + 1 by omega]
      simp only [kd_n, le_n, kz_n]
      simp
    · rw [show kz K + 3 - 1 = kz K + 2 by omega]
      simp only [kd_n, le_n, kz_n]
      simp
    · rw [show kz K + 4 - 1 = kz K + 3 by omega]
      simp only [kd_n, le_n, kz_n]
      simp
    · rw [show kz K + 5 - 1 = kz K + 4 by omega]
      simp only [kd_n, le_n, kz_n]
      simp
theorem ui_ok (N : Nat) (K : Ka) (M : Cm) {x1 x2 : Int32} (h1 : x1 = 0 ∨ x1 = 1) (h2 : x2 = 0 ∨ x2 = 1) : fT_X7_init N (kz K) x1 x2 (kNew K 8 0 (cN 7)) (mZ M (kz K)) = some (.inl (uK K, uM M (kz K) x1 x2)) := by
  have k0 : kd (kNew K 8 0 (cN 7)) (kz K) = 8 ∧ kz K < kz (kNew K 8 0 (cN 7)) := ⟨kd_new _ _ _ _, Nat.lt_succ_self _⟩
  have k1 := ks k0 22 6 6
  have k2 := ks k1 23 8 8
  have k3 := ks k2 22 8 8
  have k4 := ks k3 24 8 8
  have k5 := ks k4 22 0 0
  have k6 := ks k5 22 0 0
  have e0 : ∀ (K : Ka) (M : Cm) (x0 : Nat), fT_X7_init N x0 x1 x2 K M = bT_X7_init_9 N x0 x1 x2 x0 (kz K) (kNew K 22 6 6) (mZ M (kz K)) := fun K M x0 => by
    unfold fT_X7_init
    rw [gd_t (by decide)]; rfl
  have e1 : ∀ (K : Ka) (M : Cm) (x0 s1 : Nat), kd K x0 = 8 → bT_X7_init_9 N x0 x1 x2 x0 s1 K M = bT_X7_init_17 N x0 x1 x2 x0 (kz K) (kNew K 23 8 8) (mZ (wR M x0 2 (some s1)) (kz K)) := fun K M x0 s1 hk => by
    unfold bT_X7_init_9
    rw [gd_k hk, gd_t (by decide)]; rfl
  have e2 : ∀ (K : Ka) (M : Cm) (x0 s1 : Nat), kd K x0 = 8 → bT_X7_init_17 N x0 x1 x2 x0 s1 K M = bT_X7_init_25 N x0 x1 x2 x0 (kz K) (kNew K 22 8 8) (mZ (wR M x0 3 (some s1)) (kz K)) := fun K M x0 s1 hk => by
    unfold bT_X7_init_17
    rw [gd_k hk, gd_t (by decide)]; rfl
  have e3 : ∀ (K : Ka) (M : Cm) (x0 s1 : Nat), kd K x0 = 8 → bT_X7_init_25 N x0 x1 x2 x0 s1 K M = bT_X7_init_33 N x0 x1 x2 x0 (kz K) (kNew K 24 8 8) (mZ (wR M x0 4 (some s1)) (kz K)) := fun K M x0 s1 hk => by
    unfold bT_X7_init_25
    rw [gd_k hk, gd_t (by decide)]; rfl
  have e4 : ∀ (K : Ka) (M : Cm) (x0 s1 : Nat), kd K x0 = 8 → bT_X7_init_33 N x0 x1 x2 x0 s1 K M = bT_X7_init_60 N x0 x1 x2 x0 (kz K) (kNew K 22 0 0) (mZ (wI (wI (wI (wI (wR M x0 5 (some s1)) x0 6 (-1)) x0 7 0) x0 8 0) x0 9 0) (kz K)) := fun K M x0 s1 hk => by
    unfold bT_X7_init_33
    rw [gd_k hk, gd_k hk, gd_t (by decide)]; rfl
  have e5 : ∀ (K : Ka) (M : Cm) (x0 s1 : Nat), kd K x0 = 8 → bT_X7_init_60 N x0 x1 x2 x0 s1 K M = bT_X7_init_67 N x0 x1 x2 x0 (kz K) (kNew K 22 0 0) (mZ (wR M x0 10 (some s1)) (kz K)) := fun K M x0 s1 hk => by
    unfold bT_X7_init_60
    rw [gd_k hk, gd_t (by decide)]; rfl
  have e6 : ∀ (K : Ka) (M : Cm) (x0 s1 : Nat), kd K x0 = 8 → bT_X7_init_67 N x0 x1 x2 x0 s1 K M = some (.inl (K, wI (wI (wI (wI (wR M x0 11 (some s1)) x0 12 0) x0 13 (-1)) x0 0 x1) x0 1 x2)) := fun K M x0 s1 hk => by
    unfold bT_X7_init_67
    rw [gd_k hk, gd_k hk, gd_01 h1, gd_01 h2]
  rw [e0, e1 _ _ _ _ k1.1, e2 _ _ _ _ k2.1, e3 _ _ _ _ k3.1, e4 _ _ _ _ k4.1, e5 _ _ _ _ k5.1, e6 _ _ _ _ k6.1]
  rfl
section UINIT
variable {K : Ka} {M : Cm} {tu : Nat} {x1 x2 : Int32}
theorem uM_lo {q : Nat} (hq : q < tu) : cI (uM M tu x1 x2) q = cI M q ∧ cL (uM M tu x1 x2) q = cL M q ∧ cR (uM M tu x1 x2) q = cR M q := by
  unfold uM uM6
  refine ⟨?_, ?_, ?_⟩
  · funext s
    simp only [cI_w, cI_R, cI_z]
    simp only [show ∀ k, q ≠ tu + k from fun k => by omega, show q ≠ tu by omega, false_and, if_false]
  · funext s
    simp only [cL_I, cL_R, cL_z]
    simp only [show ∀ k, q ≠ tu + k from fun k => by omega, show q ≠ tu by omega, if_false]
  · funext s
    simp only [cR_I, cR_w, cR_z]
    simp only [show ∀ k, q ≠ tu + k from fun k => by omega, show q ≠ tu by omega, false_and, if_false]
theorem uM_I : cI (uM M tu x1 x2) tu 0 = x1 ∧ cI (uM M tu x1 x2) tu 1 = x2 ∧ cI (uM M tu x1 x2) tu 6 = -1 ∧ cI (uM M tu x1 x2) tu 7 = 0 ∧ cI (uM M tu x1 x2) tu 8 = 0 ∧ cI (uM M tu x1 x2) tu 9 = 0 ∧ cI (uM M tu x1 x2) tu 13 = -1 := by
  unfold uM uM6
  simp only [cI_w, cI_R, cI_z]
  simp
theorem uM_row : (∀ sl, sl = 2 ∨ sl = 3 ∨ sl = 4 ∨ sl = 5 → cR (uM M tu x1 x2) tu sl = some (tu + sl - 1)) ∧ ∀ s, cI (uM M tu x1 x2) (tu + 4) s = 0 := by
  unfold uM uM6
  refine ⟨fun sl h => ?_, fun s => ?_⟩
  · simp only [cR_I, cR_w, cR_z]
    rcases h with rfl | rfl | rfl | rfl
    · simp
    · simp
    · simp
    · simp
  · simp only [cI_w, cI_R, cI_z]
    simp
end UINIT
