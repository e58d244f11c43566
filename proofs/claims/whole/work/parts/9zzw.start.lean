/-! runs: a start entered, its planned fault, its end -/
theorem R93.tr {u : Nat} {S S1 S2 : Ms} (h : R93 u S S1) (q : R93 u S1 S2) : R93 u S S2 := ⟨fun k => (q.1 k).trans (h.1 k), fun k hk => (q.2.1 k hk).trans (h.2.1 k hk), q.2.2.1.trans h.2.2.1, fun v x hv hx => (q.2.2.2 v x hv hx).trans (h.2.2.2 v x hv hx)⟩
theorem R93.rf (u : Nat) (S : Ms) : R93 u S S := ⟨fun _ => rfl, fun _ _ => rfl, rfl, fun _ _ _ _ => rfl⟩
/-- the walked roles cleared -/
theorem c55 (N : Nat) (GT : Nat → Int32 → Int32 → Int32 → Int32 → Int32 → Ms → Option (Int32 × Ms)) (k81 : Int32 → Int32 → Int32 → Ms → Option (Int32 × Ms)) {u : Nat} (hu : u < 24) (x2 x3 : Int32) : ∀ (n i : Nat) (S : Ms), i ≤ 24 → 24 < n + i → ∃ S', lM_comesUp_55 N GT k81 n (nI u) x2 x3 (nI i) S = k81 (nI u) x2 x3 S' ∧ R93 u S S' ∧ ∀ x, x < 24 → mA S' 93 (24 * u + x) = if i ≤ x then 0 else mA S 93 (24 * u + x) := by
  intro n
  induction n with
  | zero => intro i S h1 h2; omega
  | succ n ih =>
    intro i S h1 h2
    rw [lM_comesUp_55]
    by_cases e : i = 24
    · rw [e, if_pos (show (24 : Int32) ≤ nI 24 by decide)]
      exact ⟨S, rfl, R93.rf u S, fun x hx => by rw [if_neg (by omega)]⟩
    · rw [if_neg (show ¬ (24 : Int32) ≤ nI i from nI_ge (b := 24) (by omega) (by decide)), ix24, ck_n (show 24 * u + i < 576 by omega) (by decide), nI_clamp (show 24 * u + i < 2 ^ 31 by omega), nI_1]
      obtain ⟨S', a1, a2, a3⟩ := ih (i + 1) (pA S 93 (24 * u + i) (vp_nar .boolean 0)) (by omega) (by omega)
      have r9 : R93 u S (pA S 93 (24 * u + i) (vp_nar .boolean 0)) := ⟨fun k => rfl, fun k hk => mA_Ane _ _ _ hk, rfl, fun v x hv hx => by rw [mA_A, if_neg (by omega)]⟩
      refine ⟨S', a1, r9.tr a2, fun x hx => ?_⟩
      rw [a3 x hx, mA_A]
      by_cases q : i = x
      · rw [if_neg (by omega), if_pos ⟨rfl, by omega⟩, if_pos (by omega)]; rfl
      · by_cases q2 : i + 1 ≤ x
        · rw [if_pos q2, if_pos (by omega)]
        · rw [if_neg q2, if_neg (by omega), if_neg (by omega)]
/-- planned faults looked up by the reference -/
theorem p126 (N : Nat) (GT : Nat → Int32 → Int32 → Int32 → Int32 → Int32 → Ms → Option (Int32 × Ms)) (k184 : Int32 → Int32 → Int32 → Ms → Option (Int32 × Ms)) {u np : Nat} (hu : u < 24) (x2 : Int32) {S : Ms} (h71 : mF S 71 = nI np) (hnp : np ≤ 40) : ∀ (n i : Nat), i ≤ np → np + 1 < n + i →
    ((∀ k, i ≤ k → k < np → ¬ (mA S 69 k = nI u ∧ mA S 70 k = mA S 55 u)) → lM_comesUp_126 N GT k184 n (nI u) x2 0 (nI i) S = k184 (nI u) x2 0 S) ∧
    ((∃ k, i ≤ k ∧ k < np ∧ mA S 69 k = nI u ∧ mA S 70 k = mA S 55 u) → lM_comesUp_126 N GT k184 n (nI u) x2 0 (nI i) S = k184 (nI u) x2 1 (pF (pF S 90 14) 91 0)) := by
  intro n
  induction n with
  | zero => intro i h1 h2; omega
  | succ n ih =>
    intro i h1 h2
    rw [lM_comesUp_126, h71]
    by_cases e : i < np
    · obtain ⟨i1, i2⟩ := ih (i + 1) (by omega) (by omega)
      have nx : lM_comesUp_126 N GT k184 n (nI u) x2 0 (nI i + 1) S = lM_comesUp_126 N GT k184 n (nI u) x2 0 (nI (i + 1)) S := by rw [nI_1]
      have go : (mA S 69 i = nI u ∧ mA S 70 i = mA S 55 u) → (if nI np ≤ nI i then k184 (nI u) x2 0 S else if (0 : Int32) = 0 then ck (nI i) 40 (if mA S 69 (nI i).toNatClampNeg = nI u then ck (nI i) 40 (ck (nI u) 24 (if mA S 70 (nI i).toNatClampNeg = mA S 55 (nI u).toNatClampNeg then (fM_fails N 14 0 S).bind fun o170 => bM_comesUp_177 N GT (lM_comesUp_126 N GT k184 n) k184 (nI u) x2 (nI i) o170.1 o170.2 else bM_comesUp_176 N GT (lM_comesUp_126 N GT k184 n) k184 (nI u) x2 (nI i) S)) else bM_comesUp_176 N GT (lM_comesUp_126 N GT k184 n) k184 (nI u) x2 (nI i) S) else k184 (nI u) x2 0 S) = k184 (nI u) x2 1 (pF (pF S 90 14) 91 0) := fun w => by
        obtain ⟨n', rfl⟩ : ∃ n', n = n' + 1 := ⟨n - 1, by omega⟩
        rw [if_neg (nI_ge e (by omega)), if_pos rfl, ck_n (show i < 40 by omega) (by decide), nI_clamp (show i < 2 ^ 31 by omega), if_pos w.1, ck_n (show i < 40 by omega) (by decide), ck_n (show u < 24 by omega) (by decide), nI_clamp (show u < 2 ^ 31 by omega), if_pos w.2]
        unfold fM_fails bM_comesUp_177
        rw [bs, lM_comesUp_126, if_neg (show ¬ (1 : Int32) = 0 by decide)]
        split <;> rfl
      have no : ¬ (mA S 69 i = nI u ∧ mA S 70 i = mA S 55 u) → (if nI np ≤ nI i then k184 (nI u) x2 0 S else if (0 : Int32) = 0 then ck (nI i) 40 (if mA S 69 (nI i).toNatClampNeg = nI u then ck (nI i) 40 (ck (nI u) 24 (if mA S 70 (nI i).toNatClampNeg = mA S 55 (nI u).toNatClampNeg then (fM_fails N 14 0 S).bind fun o170 => bM_comesUp_177 N GT (lM_comesUp_126 N GT k184 n) k184 (nI u) x2 (nI i) o170.1 o170.2 else bM_comesUp_176 N GT (lM_comesUp_126 N GT k184 n) k184 (nI u) x2 (nI i) S)) else bM_comesUp_176 N GT (lM_comesUp_126 N GT k184 n) k184 (nI u) x2 (nI i) S) else k184 (nI u) x2 0 S) = lM_comesUp_126 N GT k184 n (nI u) x2 0 (nI (i + 1)) S := fun w => by
        unfold bM_comesUp_176 bM_comesUp_177
        rw [if_neg (nI_ge e (by omega)), if_pos rfl, ck_n (show i < 40 by omega) (by decide), nI_clamp (show i < 2 ^ 31 by omega), nx]
        by_cases w1 : mA S 69 i = nI u
        · rw [if_pos w1, ck_n (show i < 40 by omega) (by decide), ck_n (show u < 24 by omega) (by decide), nI_clamp (show u < 2 ^ 31 by omega), if_neg (fun w2 => w ⟨w1, w2⟩)]
        · rw [if_neg w1]
      by_cases w : mA S 69 i = nI u ∧ mA S 70 i = mA S 55 u
      · exact ⟨fun a => absurd w (a i (Nat.le_refl _) e), fun _ => go w⟩
      · refine ⟨fun a => (no w).trans (i1 (fun k k1 k2 => a k (by omega) k2)), fun ⟨k, k1, k2, k3⟩ => (no w).trans (i2 ⟨k, ?_, k2, k3⟩)⟩
        by_cases ek : k = i
        · subst ek; exact absurd k3 w
        · omega
    · rw [if_pos (nI_le (by omega) (by omega))]
      exact ⟨fun _ => rfl, fun ⟨k, k1, k2, _⟩ => by omega⟩
section START
variable {z b st nd nu lim nh no h fl t0 c B0 N t sz ts dm : Nat} {clo who : Int32} {U : List Nat} {K : Ka} {M0 M M1 M2 M3 M' Mb Mf : Cm} {S0 S S1 S2 S3 Sb S' : Ms} {mk : List Mk} {rc cc : Nat} {g : Nat → Nat × Nat × Nat} {pi : Nat → Nat} {J : Nat → Jt} {cl : Nat → List Nat}
theorem pf8 (hL : LY z K M) (hh : h < 25) (h5 : cR M (z + 35) 5 = some (z + 38 + 2 * h)) {u e : Nat} (hu : u < 24) (h1 : cI M (z + 38 + 2 * h) 1 = nI u) (he : cI M (z + 10) u = nI e) (f s : Int32) : fC_X2_perform N K (z + 35) (nI 8) f s M = if (cI M (z + 16) u >>> (nI e &&& 31)) &&& 1 = 1 then RSE N K z 0 14 0 M else some M := by
  unfold fC_X2_perform bC_X2_perform_255 fC_X4_isPlanned bC_X4_isPlanned_19
  have f2 := (hL.2.2.1 h hh).2.1
  rw [if_neg (by decide), if_neg (by decide), if_neg (by decide), if_neg (by decide), if_neg (by decide), if_neg (by decide), if_neg (by decide), if_pos (by decide), gd_k (hL.k 35 3 0 rfl), nn_s h5, gd_k f2, nn_s (hL.r 35 0 8 (by decide)), gd_k (hL.k 8 5 0 rfl), nn_s h5, gd_k f2, nn_s (hL.r 8 1 10 (by decide)), gd_k (hL.k 10 22 24 rfl), hL.l 10 22 24 rfl (by decide), h1, ck_n hu (by decide), nI_clamp (show u < 2 ^ 31 by omega), nn_s (hL.r 35 0 8 (by decide)), gd_k (hL.k 8 5 0 rfl), gd_k (hL.k 8 5 0 rfl), he, nn_s (hL.r 8 7 16 (by decide)), gd_k (hL.k 16 22 24 rfl), hL.l 16 22 24 rfl (by decide), ck_n hu (by decide)]
  by_cases q : (cI M (z + 16) u >>> (nI e &&& 31)) &&& 1 = 1
  · rw [if_pos q, if_pos q, gd_t (show is01 1 = true from rfl), bs]
    dsimp only
    rw [if_neg (by decide), c_raise]
    exact bn_some _
  · rw [if_neg q, if_neg q, gd_t (show is01 0 = true from rfl), bs]
    dsimp only
    rw [if_pos rfl]
theorem c_addUp (hL : LY z K M) (N : Nat) {n : Nat} (h4 : cI M (z + 30) 4 = nI n) (hn : n ≤ 743) (x d v : Int32) : fC_X0_addUp N K (z + 30) x d v M = some (wI (wI (wI (wI M (z + 31) (n * 3) x) (z + 31) (n * 3 + 1) d) (z + 31) (n * 3 + 2) v) (z + 30) 4 (nI (n + 1))) := by
  have hq : cR M (z + 30) 0 = some (z + 31) := hL.r 30 0 31 (by decide)
  unfold fC_X0_addUp bC_X0_addUp_60
  have e4 : nI n * (3 : Int32) = nI (n * 3) := nI_mul n 3
  have e5 : nI (n * 3) + (1 : Int32) = nI (n * 3 + 1) := nI_add _ 1
  have e6 : nI (n * 3) + (2 : Int32) = nI (n * 3 + 2) := nI_add _ 2
  have k31 := hL.k 31 22 2232 rfl
  have l31 := hL.l 31 22 2232 rfl (by decide)
  rw [gd_k (hL.k 30 1 0 rfl), h4, if_neg (show ¬ (744 : Int32) ≤ nI n from nI_ge (b := 744) (by omega) (by decide)), nn_s hq, gd_k k31, l31, e4, ck_n (show n * 3 < 2232 by omega) (by decide), nI_clamp (show n * 3 < 2 ^ 31 by omega)]
  rw [cR_I, nn_s hq, gd_k k31, l31, cI_wI_ne _ _ _ (show z + 30 ≠ z + 31 by omega), h4, e4, e5, ck_n (show n * 3 + 1 < 2232 by omega) (by decide), nI_clamp (show n * 3 + 1 < 2 ^ 31 by omega)]
  rw [cR_I, cR_I, nn_s hq, gd_k k31, l31, cI_wI_ne _ _ _ (show z + 30 ≠ z + 31 by omega), cI_wI_ne _ _ _ (show z + 30 ≠ z + 31 by omega), h4, e4, e6, ck_n (show n * 3 + 2 < 2232 by omega) (by decide), nI_clamp (show n * 3 + 2 < 2 ^ 31 by omega)]
  rw [cI_wI_ne _ _ _ (show z + 30 ≠ z + 31 by omega), cI_wI_ne _ _ _ (show z + 30 ≠ z + 31 by omega), cI_wI_ne _ _ _ (show z + 30 ≠ z + 31 by omega), h4, nI_1]
def upC (z n u e : Nat) (dm : Int32) (M : Cm) : Cm := wI (wI (wI (wI (wI M (z + 9) u 2) (z + 31) (n * 3) (nI u)) (z + 31) (n * 3 + 1) (nI e)) (z + 31) (n * 3 + 2) dm) (z + 30) 4 (nI (n + 1))
def upS (n u e : Nat) (dm : Int32) (S : Ms) : Ms := pF (pA (pA (pA (pA S 54 u 2) 72 n (nI u)) 73 n (nI e)) 74 n dm) 75 (nI (n + 1))
theorem c_leave (hL : LY z K M) (N : Nat) (hh : h + 1 < 25) (h5 : cR M (z + 35) 5 = some (z + 38 + 2 * (h + 1))) (h6 : cI M (z + 35) 6 = nI (h + 2)) {u n e : Nat} (hu : u < 24) (h1 : cI M (z + 38 + 2 * (h + 1)) 1 = nI u) (he : cI M (z + 10) u = nI e) (h4 : cI M (z + 30) 4 = nI n) (hn : n ≤ 743) : fC_X2_leave N K (z + 35) M = some (drC z h (upC z n u e (cI M (z + 35) 8) M)) := by
  unfold fC_X2_leave upC
  have f2 := (hL.2.2.1 (h + 1) hh).2.1
  have hL1 : LY z K (wI M (z + 9) u 2) := hL
  rw [gd_k (hL.k 35 3 0 rfl), h6, if_pos (show (1 : Int32) < nI (h + 2) from nI_lt (a := 1) (by omega) (by omega)), nn_s h5, gd_k f2, nn_s (hL.r 35 0 8 (by decide)), gd_k (hL.k 8 5 0 rfl), nn_s (hL.r 8 0 9 (by decide)), gd_k (hL.k 9 22 24 rfl), hL.l 9 22 24 rfl (by decide), h1, ck_n hu (by decide), nI_clamp (show u < 2 ^ 31 by omega)]
  rw [nn_s (hL1.r 35 0 8 (by decide)), gd_k (hL.k 8 5 0 rfl), nn_s (hL1.r 8 1 10 (by decide)), gd_k (hL.k 10 22 24 rfl), hL.l 10 22 24 rfl (by decide), ck_n hu (by decide), nn_s (hL1.r 35 1 30 (by decide)), gd_k (hL.k 30 1 0 rfl), cI_wI_ne _ _ _ (show z + 10 ≠ z + 9 by omega), he, cI_wI_ne _ _ _ (show z + 35 ≠ z + 9 by omega)]
  rw [c_addUp hL1 N (by rw [cI_wI_ne _ _ _ (by omega)]; exact h4) hn, bs]
  have hL2 : LY z K (wI (wI (wI (wI (wI M (z + 9) u 2) (z + 31) (n * 3) (nI u)) (z + 31) (n * 3 + 1) (nI e)) (z + 31) (n * 3 + 2) (cI M (z + 35) 8)) (z + 30) 4 (nI (n + 1))) := hL
  rw [c_drop hL2 N (h := h) (by omega) (by rw [cI_wI_ne _ _ _ (by omega), cI_wI_ne _ _ _ (by omega), cI_wI_ne _ _ _ (by omega), cI_wI_ne _ _ _ (by omega), cI_wI_ne _ _ _ (by omega)]; exact h6), bs]
theorem c_leave0 (hL : LY z K M) (N : Nat) (h6 : cI M (z + 35) 6 = nI 1) : fC_X2_leave N K (z + 35) M = some (wI M (z + 35) 13 0) := by
  unfold fC_X2_leave
  rw [gd_k (hL.k 35 3 0 rfl), h6, if_neg (by decide), gd_t (show is01 0 = true from rfl)]
def flC (z u : Nat) (p q : Int32) (M : Cm) : Cm := wI (wI (wI M (z + 9) u 3) (z + 12) u p) (z + 13) u q
def flS (u : Nat) (p q : Int32) (S : Ms) : Ms := pA (pA (pA S 54 u 3) 57 u p) 58 u q
theorem m_up (N : Nat) (GT : Nat → Int32 → Int32 → Int32 → Int32 → Int32 → Ms → Option (Int32 × Ms)) {u n e : Nat} (hu : u < 24) (h75 : mF S 75 = nI n) (hn : n ≤ 743) (he : mA S 55 u = nI e) : bM_comesUp_201 N GT (nI u) 0 S = some (0, upS n u e (mF S 92) S) := by
  unfold bM_comesUp_201 bM_comesUp_345
  have F : ∀ (T : Ms), mF T = mF S → mF T 75 = nI n := fun T h => by rw [h]; exact h75
  rw [if_pos rfl, ck_n hu (by decide), nI_clamp (show u < 2 ^ 31 by omega)]
  simp only [mF_A, h75]
  rw [nI_clamp (show n < 2 ^ 31 by omega), ck_n (show n < 800 by omega) (by decide), ck_n hu (by decide), ck_n (show n < 800 by omega) (by decide), ck_n (show n < 800 by omega) (by decide), mA_Ane _ _ _ (show 55 ≠ 72 by decide), mA_Ane _ _ _ (show 55 ≠ 54 by decide), he, nI_1]
  rfl
theorem m_fl1 (N : Nat) (GT : Nat → Int32 → Int32 → Int32 → Int32 → Int32 → Ms → Option (Int32 × Ms)) {u : Nat} (hu : u < 24) : bM_comesUp_201 N GT (nI u) 1 S = some (1, flS u (fA (mF S 90)) (fB (mF S 90) (mF S 91)) (pF (pF S 91 (fB (mF S 90) (mF S 91))) 90 (fA (mF S 90)))) := by
  unfold bM_comesUp_201 bM_comesUp_325 bM_comesUp_345 flS fA fB
  rw [if_neg (by decide), ck_n hu (by decide), nI_clamp (show u < 2 ^ 31 by omega), if_neg (show ¬ (1 : Int32) = 2 by decide), ck_n hu (by decide), ck_n hu (by decide), ck_n hu (by decide), ck_n hu (by decide), mF_A]
  have same : pF (pF S 91 (mF S 91)) 90 (mF S 90) = S := by rw [pF_self, pF_self]
  by_cases e1 : mF S 90 = 20
  · rw [if_pos e1, if_pos (Or.inl e1), if_pos (Or.inl e1), same]; rfl
  · rw [if_neg e1]
    by_cases e2 : mF S 90 = 21
    · rw [if_pos e2, if_pos (Or.inr e2), if_pos (Or.inr e2), same]; rfl
    · rw [if_neg e2, if_neg (fun q => q.elim e1 e2), if_neg (fun q => q.elim e1 e2)]; rfl
theorem m_fl2 (N : Nat) (GT : Nat → Int32 → Int32 → Int32 → Int32 → Int32 → Ms → Option (Int32 × Ms)) {u : Nat} (hu : u < 24) : bM_comesUp_201 N GT (nI u) 2 S = some (2, flS u 22 0 S) := by
  unfold bM_comesUp_201 bM_comesUp_345 flS
  rw [if_neg (by decide), ck_n hu (by decide), nI_clamp (show u < 2 ^ 31 by omega), if_pos rfl, ck_n hu (by decide), ck_n hu (by decide)]
/-- a frame entered -/
theorem en_mb (X : CDX z b st nd nu K M0 S0 mk rc cc g pi J cl) (m : MBX z b st nd nu lim B0 0 M0 S0 t h fl t0 U who M S) (s : SZ z h fl t0 sz ts M S) {u : Nat} (hu : u < nu) (h0 : mA S 54 u = 0) (q : Nat) :
    BRS z b st nd nu lim B0 M0 S0 M S t (h + 1) sz ts (U ++ [u]) (nI u) q (enC z (h + 1) sz (nI u) (nI q) (wI M (z + 9) u 1)) (pA S 54 u 1) := by
  have hn24 : nu ≤ 24 := X.1.2.1
  obtain ⟨rm, nm⟩ := m.room hu h0
  obtain ⟨nh, no, n1, n2, m1, ⟨a1, a2, a3, a4, a5, a6, a7, a8⟩, ⟨us, b1, b2, b3, b4, b5, b6⟩, ⟨c1, c2, c3, c4⟩, ⟨d1, d2, d3, d4⟩, m6⟩ := m
  obtain ⟨s1, s2, s3, s4, s5, s6, s7, s8⟩ := s
  have C : ∀ a, a ≠ z + 9 → a ≠ z + 35 → a ≠ z + 38 + 2 * (h + 1) → cI (enC z (h + 1) sz (nI u) (nI q) (wI M (z + 9) u 1)) a = cI M a := fun a h1 h2 h3 => by
    unfold enC
    rw [cI_wI_ne _ _ _ h2, cI_wI_ne _ _ _ h3, cI_wI_ne _ _ _ h3, cI_wI_ne _ _ _ h3, cI_wI_ne _ _ _ h3, cI_wI_ne _ _ _ h3, cI_R, cI_wI_ne _ _ _ h1]
  have C35 : ∀ k, k ≠ 6 → cI (enC z (h + 1) sz (nI u) (nI q) (wI M (z + 9) u 1)) (z + 35) k = cI M (z + 35) k := fun k hk => by
    unfold enC
    rw [cI_w, if_neg (fun w => hk w.2), cI_wI_ne _ _ _ (by omega), cI_wI_ne _ _ _ (by omega), cI_wI_ne _ _ _ (by omega), cI_wI_ne _ _ _ (by omega), cI_wI_ne _ _ _ (by omega), cI_R, cI_wI_ne _ _ _ (by omega)]
  have CF : ∀ k, cI (enC z (h + 1) sz (nI u) (nI q) (wI M (z + 9) u 1)) (z + 38 + 2 * (h + 1)) k = if k = 5 then 0 else if k = 4 then nI sz else if k = 3 then 0 else if k = 2 then nI q else if k = 1 then nI u else cI M (z + 38 + 2 * (h + 1)) k := fun k => by
    unfold enC
    rw [cI_wI_ne _ _ _ (by omega), cI_w, cI_w, cI_w, cI_w, cI_w, cI_R, cI_wI_ne _ _ _ (by omega)]
    simp
  have CR : ∀ a k, a ≠ z + 35 ∨ k ≠ 5 → cR (enC z (h + 1) sz (nI u) (nI q) (wI M (z + 9) u 1)) a k = cR M a k := fun a k hk => by
    unfold enC
    rw [cR_I, cR_I, cR_I, cR_I, cR_I, cR_I, cR_w, if_neg (by omega), cR_I]
  have A54 : ∀ x, mA (pA S 54 u 1) 54 x = if x = u then 1 else mA S 54 x := fun x => by rw [mA_A]; simp
  have Ao : ∀ k, k ≠ 54 → mA (pA S 54 u 1) k = mA S k := fun k hk => mA_Ane _ _ _ hk
  have mch : MCH z (wI M (z + 9) u 1) (enC z (h + 1) sz (nI u) (nI q) (wI M (z + 9) u 1)) (pA S 54 u 1) (pA S 54 u 1) := by
    unfold enC
    exact (((((((MCH.rf z (wI M (z + 9) u 1) (pA S 54 u 1)).wR (by decide)).wI (by omega)).wI (by omega)).wI (by omega)).wI (by omega)).wI (by omega)).wI (by omega)
  refine ⟨⟨nh, no, n1, n2, (m1.com hu hn24 h0).mach mch, ⟨?_, ?_, ?_, ?_, ?_, ?_, ?_, ?_⟩, ⟨us, b1, b2, b3, b4, ?_, ?_⟩, ⟨by rw [List.length_append, c1]; rfl, ?_, fun v hv => ?_, fun i hi => ?_⟩, ⟨?_, Or.inr ⟨u, hu, rfl⟩, ?_, s6, s8⟩, ?_⟩, ⟨?_, ?_, ?_⟩, ⟨?_, s2, fun j hj => ?_, s4, Nat.le_refl _, by omega, Nat.le_refl _, by omega⟩, ⟨fun i hi => ⟨?_, ?_⟩, fun j hj => ⟨?_, rfl⟩, fun j hj => rfl, fun v hv => ?_, fun v hv => ?_, fun v x hv hx => ?_, fun v x hv => ?_⟩, rfl, rfl, rfl, rfl⟩
  · rw [CR _ _ (Or.inr (by decide))]; exact a1
  · unfold enC
    rw [cR_I, cR_I, cR_I, cR_I, cR_I, cR_I, cR_w, if_pos ⟨rfl, rfl⟩]
  · unfold enC
    rw [cI_w, if_pos ⟨rfl, rfl⟩]
  · rw [C35 _ (by decide)]; exact a4
  · rw [C35 _ (by decide)]; exact a5
  · rw [C35 _ (by decide)]; exact a6
  · rw [C35 _ (by decide)]; exact a7
  · rw [C35 _ (by decide)]; exact a8
  · rw [C35 _ (by decide)]; exact b5
  · rw [C35 _ (by decide)]; exact b6
  · exact List.nodup_append.mpr ⟨c2, List.nodup_cons.mpr ⟨List.not_mem_nil, List.nodup_nil⟩, fun a ha x hx => by
      rw [List.mem_singleton] at hx
      rw [hx]
      exact fun w => nm (w ▸ ha)⟩
  · rw [A54]
    rcases List.mem_append.mp hv with w | w
    · have ne : v ≠ u := fun e => nm (e ▸ w)
      rw [if_neg ne]; exact c3 v w
    · rw [List.mem_singleton] at w
      rw [w, if_pos rfl]; exact ⟨hu, rfl⟩
  · by_cases e : i = h
    · subst e
      rw [CF, if_neg (by decide), if_neg (by decide), if_neg (by decide), if_neg (by decide), if_pos rfl]
      have := gD_r U [u] 0
      rw [c1] at this
      rw [Nat.add_zero] at this
      rw [this]; rfl
    · rw [C _ (by omega) (by omega) (by omega), gD_l U [u] (by omega)]
      exact c4 i (by omega)
  · rw [CF, if_neg (by decide), if_neg (by decide), if_neg (by decide), if_neg (by decide), if_pos rfl]
  · rw [CF, if_neg (by decide), if_pos rfl]
  · rcases m6 with ⟨e1, e2, e3⟩ | ⟨e1, -⟩
    · refine Or.inl ⟨e1, by rw [C35 _ (by decide)]; exact e2, fun x hx => ?_⟩
      rw [A54]
      by_cases e : x = u
      · rw [if_pos e]; decide
      · rw [if_neg e]; exact e3 x hx
    · exact absurd e1 (by decide)
  · rw [CF, if_neg (by decide), if_neg (by decide), if_neg (by decide), if_pos rfl]
  · rw [CF, if_neg (by decide), if_neg (by decide), if_pos rfl]
  · rw [CF, if_pos rfl]
  · rw [C35 _ (by decide)]; exact s1
  · rw [C _ (by omega) (by omega) (by omega), Ao 94 (by decide)]; exact s3 j hj
  · rw [C _ (by omega) (by omega) (by omega)]
  · rw [C _ (by omega) (by omega) (by omega)]
  · rw [C _ (by omega) (by omega) (by omega)]
  · rw [A54]
    by_cases e : v = u
    · rw [if_pos e]
    · rw [if_neg e]; exact hv
  · rw [A54] at hv
    by_cases e : v = u
    · rw [e]; exact h0
    · rw [if_neg e] at hv; exact hv
  · rw [Ao 93 (by decide)]
  · unfold NH at hv ⊢
    rw [Ao 59 (by decide), Ao 60 (by decide)]; exact hv
/-- a frame left: what stands of the one below -/
theorem dr_mb (m : MBX z b st nd nu lim B0 0 M0 S0 t h fl t0 U who Mb Sb) {t' u : Nat} {v : Int32} (hu : u < nu) (h0 : mA Sb 54 u = 0) {w : Int32} (m1 : MBX z b st nd nu lim B0 0 M0 S0 t' (h + 1) sz ts (U ++ [u]) w M S) (p : PR z (h + 1) sz ts Mb M Sb S)
    (hd : ∀ nh no, DD z b nd nu M0 S0 nh no M S → DD z b nd nu M0 S0 nh no M3 S3) (hC : ∀ a, a = z + 35 ∨ (z + 37 ≤ a ∧ a ≤ z + 87) → cI M3 a = cI M a) (hR : cR M3 = cR M) (hF : ∀ k, k = 67 ∨ k = 68 ∨ (92 ≤ k ∧ k ≤ 99) → mF S3 k = mF S k) (hA : ∀ k, k = 59 ∨ k = 60 ∨ k = 93 ∨ k = 94 ∨ k = 96 → mA S3 k = mA S k) (h54 : ∀ x, mA S3 54 x = if x = u then v else mA S 54 x) (hv : v ≠ 0 ∧ v ≠ 4) (hn24 : nu ≤ 24) :
    MBX z b st nd nu lim B0 0 M0 S0 t' h fl t0 U who (drC z h M3) S3 ∧ PR z (h + 1) sz ts Mb (drC z h M3) Sb S3 ∧ gS nu S3 ≤ gS nu S := by
  obtain ⟨nh', no', -, -, -, -, -, ⟨g1, g2, g3, g4⟩, ⟨gd1, gd2, gd3, gd4⟩, -⟩ := m
  obtain ⟨nh, no, n1, n2, q1, ⟨a1, a2, a3, a4, a5, a6, a7, a8⟩, ⟨us, b1, b2, b3, b4, b5, b6⟩, ⟨c1, c2, c3, c4⟩, -, m6⟩ := m1
  obtain ⟨p1, p2, p3, p4, p5, p6, p7⟩ := p
  have nm : u ∉ U := fun w => by
    have := (g3 u w).2
    rw [h0] at this
    exact absurd this (by decide)
  have CD : ∀ a, a ≠ z + 35 → cI (drC z h M3) a = cI M3 a := fun a ha => by unfold drC; rw [cI_R, cI_wI_ne _ _ _ ha]
  have C35 : ∀ k, k ≠ 6 → cI (drC z h M3) (z + 35) k = cI M (z + 35) k := fun k hk => by
    unfold drC
    rw [cI_R, cI_w, if_neg (fun w => hk w.2), hC _ (Or.inl rfl)]
  have CR : ∀ a k, a ≠ z + 35 ∨ k ≠ 5 → cR (drC z h M3) a k = cR M a k := fun a k hk => by unfold drC; rw [cR_w, if_neg (by omega), cR_I, hR]
  have mch : MCH z M3 (drC z h M3) S3 S3 := by
    unfold drC
    exact ((MCH.rf z M3 S3).wI (Or.inl ⟨rfl, by decide⟩)).wR (by decide)
  have hz : ∀ x, mA S3 54 x = 0 → mA S 54 x = 0 := fun x hx => by
    rw [h54] at hx
    by_cases e : x = u
    · rw [if_pos e] at hx; exact absurd hx hv.1
    · rw [if_neg e] at hx; exact hx
  have h24 : h + 1 ≤ nu := by
    have := nd_len nu (u :: U) (List.nodup_cons.mpr ⟨nm, g2⟩) (fun v hv => by
      rcases List.mem_cons.mp hv with rfl | w
      · exact hu
      · exact (g3 v w).1)
    rw [List.length_cons, g1] at this
    exact this
  refine ⟨⟨nh, no, n1, n2, (hd nh no q1).mach mch, ⟨?_, ?_, ?_, ?_, ?_, ?_, ?_, ?_⟩, ⟨us, b1, b2, ?_, ?_, ?_, ?_⟩, ⟨g1, g2, fun x hx => ?_, fun i hi => ?_⟩, ⟨?_, gd2, ?_, gd4⟩, ?_⟩, ⟨fun i hi => ⟨?_, ?_⟩, fun j hj => ⟨?_, ?_⟩, fun j hj => ?_, fun x hx => ?_, fun x hx => p5 x (hz x hx), fun x y hx hy => ?_, fun x y hx => ?_⟩, gS_ag (hF 68 (by omega)) (hF 67 (by omega)) hz⟩
  · rw [CR _ _ (Or.inr (by decide))]; exact a1
  · unfold drC
    rw [cR_w, if_pos ⟨rfl, rfl⟩]
  · unfold drC
    rw [cI_R, cI_w, if_pos ⟨rfl, rfl⟩]
  · rw [C35 _ (by decide)]; exact a4
  · rw [C35 _ (by decide)]; exact a5
  · rw [C35 _ (by decide)]; exact a6
  · rw [C35 _ (by decide)]; exact a7
  · rw [C35 _ (by decide)]; exact a8
  · rw [hF 68 (by omega)]; exact b3
  · rw [hF 67 (by omega)]; exact b4
  · rw [C35 _ (by decide)]; exact b5
  · rw [C35 _ (by decide)]; exact b6
  · have ne : x ≠ u := fun e => nm (e ▸ hx)
    rw [h54, if_neg ne]
    exact c3 x (List.mem_append_left _ hx)
  · rw [CD _ (by omega), hC _ (by omega)]
    rw [(p1 (i + 1) (by omega)).1]; exact g4 i hi
  · rw [CD _ (by omega), hC _ (by omega), (p1 h (by omega)).1]; exact gd1
  · rw [CD _ (by omega), hC _ (by omega), (p1 h (by omega)).1]; exact gd3
  · rcases m6 with ⟨e1, e2, e3⟩ | ⟨e1, -⟩
    · refine Or.inl ⟨e1, by rw [C35 _ (by decide), hF 92 (by omega)]; exact e2, fun x hx => ?_⟩
      rw [h54]
      by_cases e : x = u
      · rw [if_pos e]; exact hv.2
      · rw [if_neg e]; exact e3 x hx
    · exact absurd e1 (by decide)
  · rw [CD _ (by omega), hC _ (by omega)]; exact (p1 i hi).1
  · rw [CD _ (by omega), hC _ (by omega)]; exact (p1 i hi).2
  · rw [CD _ (by omega), hC _ (by omega)]; exact (p2 j hj).1
  · rw [hA 94 (by omega)]; exact (p2 j hj).2
  · rw [hA 96 (by omega)]; exact p3 j hj
  · have ne : x ≠ u := fun e => by rw [e, h0] at hx; exact absurd hx (by decide)
    rw [h54, if_neg ne]; exact p4 x hx
  · rw [hA 93 (by omega)]; exact p6 x y hx hy
  · have := p7 x y hx
    unfold NH at this ⊢
    rw [hA 59 (by omega), hA 60 (by omega)]; exact this
end START
