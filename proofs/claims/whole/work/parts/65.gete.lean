/-! read, count -/
theorem rd_loop (N : Nat) (k98 : Int32 → Int32 → Ms → Option (Int32 × Ms)) (x1 : Int32) (S : Ms) {i r t : Nat} (hi : i < 48) (ht : t < 8) (h1 : mA S 27 (8 * i + t) = 0) (h2 : mA S 29 (8 * i + t) = nI r) (h3 : ∀ s', s' < t → mA S 27 (8 * i + s') ≠ 0 ∨ mA S 29 (8 * i + s') ≠ nI r) : ∀ (n s : Nat), s ≤ t → t < n + s → lM_read_61 N k98 n x1 (nI r) (nI i) (nI s) S = k98 x1 (nI t) S := by
  intro n
  induction n with
  | zero => intro s hs hn; omega
  | succ n ih =>
    intro s hs hn
    rw [lM_read_61, ix8, ck_n (show 8 * i + s < 384 by omega) (by decide), ck_n (show 8 * i + s < 384 by omega) (by decide), nI_clamp (by omega)]
    unfold bM_read_92
    by_cases e : s = t
    · subst e
      rw [if_pos h1, if_pos h2]
    · rw [nI_1]
      have hr := ih (s + 1) (by omega) (by omega)
      rcases h3 s (by omega) with q | q
      · rw [if_neg q]; exact hr
      · rw [if_neg q]
        by_cases q2 : mA S 27 (8 * i + s) = 0
        · rw [if_pos q2]; exact hr
        · rw [if_neg q2]; exact hr
/-- how many of the first n are v -/
def cntv (f : Nat → Int32) (v : Int32) : Nat → Nat
  | 0 => 0
  | n + 1 => if f n = v then cntv f v n + 1 else cntv f v n
theorem cntv_le (f : Nat → Int32) (v : Int32) (n : Nat) : cntv f v n ≤ n := by
  induction n with
  | zero => exact Nat.le_refl _
  | succ n ih =>
    rw [cntv]
    by_cases h : f n = v
    · rw [if_pos h]; omega
    · rw [if_neg h]; omega
theorem cntv_eq {f g : Nat → Int32} {v : Int32} {n m : Nat} (hm : n ≤ m) (h1 : ∀ u, u < n → f u = g u) (h2 : ∀ u, n ≤ u → u < m → f u ≠ v) : cntv f v m = cntv g v n := by
  induction m with
  | zero =>
    have : n = 0 := by omega
    subst this
    rfl
  | succ m ih =>
    by_cases e : n = m + 1
    · subst e
      clear ih
      have key : ∀ k, k ≤ m + 1 → cntv f v k = cntv g v k := by
        intro k
        induction k with
        | zero => intro _; rfl
        | succ k ih => intro hk; rw [cntv, cntv, ih (by omega), h1 k (by omega)]
      exact key (m + 1) (Nat.le_refl _)
    · rw [cntv, if_neg (h2 m (by omega) (by omega))]
      exact ih (by omega) (fun u a c => h2 u a (by omega))
section GETE
variable {z : Nat} {K : Ka} {M : Cm} {S : Ms} {b st nd nu nm : Nat}
theorem g_read (h : RelP z K M S b st nd nu nm) (N : Nat) (hN : 136 < N) (v1 v2 : Int32) : ∃ o : Ka × Cm × Ms, fS_read N z (z + 173) v1 v2 K M S = some o ∧ RelP z o.1 o.2.1 o.2.2 b st nd nu nm ∧ OUTK z K M S o := by
  have hh := h
  have hU := c_isU h N v1
  obtain ⟨hLY, -, -, -, -, -, -, -, -, -, hRE, -, hSA, -, hSU, -⟩ := h
  obtain ⟨hb, hn, s3, -, s5, hnd, hnu, -, -, -, -, hsu, -⟩ := hSA
  obtain ⟨a4, a5, a6, -, q5, -, q, -⟩ := hSU
  have hm := m_isU (S := S) hb hn hsu N v1
  have ht : fT_X8_read N z v1 v2 K M = some (.inr (K, M)) → fM_read N v1 v2 S = some (0, pF S 0 1) → ∃ o : Ka × Cm × Ms, fS_read N z (z + 173) v1 v2 K M S = some o ∧ RelP z o.1 o.2.1 o.2.2 b st nd nu nm ∧ OUTK z K M S o := fun c m => ⟨_, ft_read hh c m, (hh.thr 1).kX, Or.inr ⟨rfl, rfl, 1, rfl⟩⟩
  have hv : ∀ r : Int32, fT_X8_read N z v1 v2 K M = some (.inl (r, K, M)) → fM_read N v1 v2 S = some (r, pF S 0 0) → ∃ o : Ka × Cm × Ms, fS_read N z (z + 173) v1 v2 K M S = some o ∧ RelP z o.1 o.2.1 o.2.2 b st nd nu nm ∧ OUTK z K M S o := fun r c m => ⟨_, fv_read hh c m, (hh.thr 0).out _, Or.inl ⟨rfl, ⟨_, rfl⟩, 0, rfl⟩⟩
  have th : bM_read_35 N v1 v2 S = some (0, pF S 0 1) := by
    unfold bM_read_35 bM_read_36
    rw [if_neg (show ¬ mF (pF S 0 1) 0 ≤ 0 by show ¬ (1 : Int32) ≤ 0; decide)]
  by_cases hu : isUb nu v1 = 0
  · refine ht ?_ ?_
    · unfold fT_X8_read
      rw [gd_k hLY.k9, hU, bs]
      dsimp only
      rw [if_pos hu]
    · unfold fM_read
      rw [hm, bs]
      dsimp only
      rw [if_pos hu]
      exact th
  · obtain ⟨u, hu2, rfl⟩ := isUb_1 hnu hu
    obtain ⟨-, tu, htu, hUN⟩ := q u hu2
    obtain ⟨-, ktu, -, -, -, -, -, -, ni, ns, hns, hni, i8, j8, i9, j9, j30, g1, g2, g3⟩ := hUN
    obtain ⟨e1, -⟩ := hRE u (by omega)
    obtain ⟨r1, r2, r3, r4, r5, r6⟩ := q5
    by_cases c0 : v2 < 0
    · refine ht ?_ ?_
      · unfold fT_X8_read bT_X8_read_38
        rw [gd_k hLY.k9, hU, bs]
        dsimp only
        rw [if_neg hu, if_pos c0]
      · unfold fM_read
        rw [hm, bs]
        dsimp only
        rw [if_neg hu, if_pos c0]
        exact th
    · obtain ⟨r, hr, rfl⟩ := nI_of c0
      by_cases c1 : ns ≤ r
      · refine ht ?_ ?_
        · unfold fT_X8_read bT_X8_read_38
          rw [gd_k hLY.k9, hU, bs]
          dsimp only
          rw [if_neg hu, if_neg c0, nn_s s3, gd_k s5, nn_s r1, gd_k r4, ck_n (show u < le K a5 by omega) r6, nI_clamp (by omega), nn_s htu, gd_k ktu, i9, if_neg (nI_nlt c1 hr)]
        · unfold fM_read
          rw [hm, bs]
          dsimp only
          rw [if_neg hu, if_neg c0, hn, ix24, ck_n (show 24 * b + u < 48 by omega) (by decide), nI_clamp (by omega), j9, if_pos (nI_le c1 hr)]
          exact th
      · have hrn : r < ns := by omega
        obtain ⟨t, t1, t2, t3, t4⟩ := g1 r hrn
        obtain ⟨r', r'1, r'2, r'3⟩ := g3 t t1 t2
        have err : r' = r := by
          have := r'2.symm.trans t3
          exact (nI_eq (by omega) (by omega)).mp this
        subst err
        have hmod : fM_read N (nI u) (nI r') S = bM_read_98 N (nI u) (nI t) (pF S 0 0) := by
          unfold fM_read bM_read_36
          rw [hm, bs]
          dsimp only
          have hn' : mF (pF S 0 0) 11 = nI b := hn
          rw [if_neg hu, if_neg c0, hn, ix24, ck_n (show 24 * b + u < 48 by omega) (by decide), nI_clamp (by omega), j9, if_neg (nI_ge hrn (by omega)), if_pos (show mF (pF S 0 0) 0 ≤ 0 by show (0 : Int32) ≤ 0; decide), hn', ix24]
          exact rd_loop N (bM_read_98 N) (nI u) (pF S 0 0) (i := 24 * b + u) (r := r') (t := t) (by omega) (by omega) t2 t3 t4 N 0 (by omega) (by omega)
        have hcls : fT_X8_read N z (nI u) (nI r') K M = some (.inl (if mA S 54 u = 0 then 0 else cI M (z + 11) (8 * u + r'), K, M)) := by
          unfold fT_X8_read bT_X8_read_79
          rw [gd_k hLY.k9, hU, bs]
          dsimp only
          rw [if_neg hu, if_neg c0, nn_s s3, gd_k s5, nn_s r1, gd_k r4, ck_n (show u < le K a5 by omega) r6, nI_clamp (show u < 2 ^ 31 by omega), nn_s htu, gd_k ktu, i9, if_pos (nI_lt hrn (by omega)), nn_s (hLY.r0 2 8 (by decide)), nn_s (hLY.r0 2 8 (by decide)), gd_k (hLY.k 8 5 0 rfl), gd_k (hLY.k 8 5 0 rfl), nn_s (hLY.r 8 0 9 (by decide)), nn_s (hLY.r 8 2 11 (by decide)), gd_k (hLY.k 9 22 24 rfl), gd_k (hLY.k 11 22 192 rfl), hLY.l 9 22 24 rfl (by decide), hLY.l 11 22 192 rfl (by decide), ck_n (show u < 24 by omega) (by decide), ix8r, ck_n (show 8 * u + r' < 192 by omega) (by decide), nI_clamp (show 8 * u + r' < 2 ^ 31 by omega), e1]
          by_cases c5 : mA S 54 u = 0
          · rw [if_pos c5, if_pos c5]
          · rw [if_neg c5, if_neg c5]
        refine hv _ hcls ?_
        rw [hmod]
        unfold bM_read_98 bM_read_123
        rw [ck_n (show u < 24 by omega) (by decide), nI_clamp (show u < 2 ^ 31 by omega), ix8, ck_n (show 8 * u + t < 192 by omega) (by decide), nI_clamp (show 8 * u + t < 2 ^ 31 by omega)]
        have y54 : mA (pF S 0 0) 54 u = mA S 54 u := rfl
        have y56 : mA (pF S 0 0) 56 (8 * u + t) = cI M (z + 11) (8 * u + r') := r'3.symm
        rw [y54, y56]
        by_cases c5 : mA S 54 u = 0
        · rw [if_pos c5, if_pos c5]
        · rw [if_neg c5, if_neg c5]
theorem ua_loop (N : Nat) (hLY : LY z K M) (v : Int32) : ∀ (n i c : Nat), i ≤ 24 → 24 < n + i → c ≤ i → lC_X4_unitsAt_4 N K (bC_X4_unitsAt_29 N K) n (z + 8) v (nI c) (nI i) M = some (nI (c + (cntv (cI M (z + 9)) v 24 - cntv (cI M (z + 9)) v i)), M) := by
  intro n
  induction n with
  | zero => intro i c hi hn; omega
  | succ n ih =>
    intro i c hi hn hc
    rw [lC_X4_unitsAt_4]
    unfold bC_X4_unitsAt_29 bC_X4_unitsAt_23
    by_cases e : i = 24
    · subst e
      rw [if_pos (by decide), Nat.sub_self, Nat.add_zero]
    · have mono : ∀ a b : Nat, a ≤ b → cntv (cI M (z + 9)) v a ≤ cntv (cI M (z + 9)) v b := fun a b hab => by
        induction b with
        | zero => have : a = 0 := by omega
                  subst this; exact Nat.le_refl _
        | succ b ihb =>
          by_cases e : a = b + 1
          · subst e; exact Nat.le_refl _
          · have h1 := ihb (by omega)
            rw [cntv]
            by_cases hq : cI M (z + 9) b = v
            · rw [if_pos hq]; omega
            · rw [if_neg hq]; exact h1
      have hm := mono (i + 1) 24 (by omega)
      rw [if_neg (show ¬ (24 : Int32) ≤ nI i from nI_ge (b := 24) (by omega) (by decide)), gd_k (hLY.k 8 5 0 rfl), nn_s (hLY.r 8 0 9 (by decide)), gd_k (hLY.k 9 22 24 rfl), hLY.l 9 22 24 rfl (by decide), ck_n (show i < 24 by omega) (by decide), nI_clamp (by omega), nI_1, nI_1]
      rw [cntv] at hm
      by_cases hq : cI M (z + 9) i = v
      · rw [if_pos hq] at hm ⊢
        have := ih (i + 1) (c + 1) (by omega) (by omega) (by omega)
        unfold bC_X4_unitsAt_29 at this
        have ec : cntv (cI M (z + 9)) v (i + 1) = cntv (cI M (z + 9)) v i + 1 := by rw [cntv, if_pos hq]
        rw [this, ec]
        congr 3
        omega
      · rw [if_neg hq] at hm ⊢
        have := ih (i + 1) c (by omega) (by omega) (by omega)
        unfold bC_X4_unitsAt_29 at this
        have ec : cntv (cI M (z + 9)) v (i + 1) = cntv (cI M (z + 9)) v i := by rw [cntv, if_neg hq]
        rw [this, ec]
theorem ct_loop (N : Nat) (x1 : Int32) (hb : b = 0 ∨ b = 1) (hn : mF S 11 = nI b) (hu : mA S 18 b = nI nu) (hnu : nu ≤ 24) : ∀ (n i : Nat), i ≤ nu → nu < n + i → lM_count_12 N (bM_count_70 N) n x1 (nI (cntv (mA S 54) 2 i)) (nI (cntv (mA S 54) 3 i)) (nI i) S = bM_count_70 N x1 (nI (cntv (mA S 54) 2 nu)) (nI (cntv (mA S 54) 3 nu)) S := by
  intro n
  induction n with
  | zero => intro i hi hn; omega
  | succ n ih =>
    intro i hi hni
    rw [lM_count_12]
    unfold bM_count_43 bM_count_62
    rw [hn, ck_n (show b < 2 by omega) (by decide), nI_clamp (show b < 2 ^ 31 by omega), hu]
    by_cases e : i = nu
    · subst e
      rw [if_pos (nI_le (Nat.le_refl _) (by omega))]
    · have e0 : ∀ c, nI c + 0 = nI c := fun c => Int32.add_zero _
      have := ih (i + 1) (by omega) (by omega)
      rw [if_neg (nI_ge (show i < nu by omega) (by omega)), ck_n (show i < 24 by omega) (by decide), ck_n (show i < 24 by omega) (by decide), ck_n (show i < 24 by omega) (by decide), nI_clamp (show i < 2 ^ 31 by omega), nI_1, nI_1, nI_1, e0, e0]
      rw [cntv, cntv] at this
      by_cases q2 : mA S 54 i = 2
      · have q3 : ¬ mA S 54 i = 3 := by rw [q2]; decide
        rw [if_pos q2, if_neg q3] at this
        rw [if_pos q2, if_neg q3]
        exact this
      · by_cases q3 : mA S 54 i = 3
        · rw [if_neg q2, if_pos q3] at this
          rw [if_neg q2, if_pos q3]
          exact this
        · rw [if_neg q2, if_neg q3] at this
          rw [if_neg q2, if_neg q3]
          exact this
theorem g_count (h : RelP z K M S b st nd nu nm) (N : Nat) (hN : 136 < N) (v1 : Int32) : fS_count N z v1 K M S = some (K, M, pF S 0 0) := by
  obtain ⟨hLY, hR1, hRT, -, -, hRU, hRH, hRO, -, hRP, hRE, -, hSA, -⟩ := h
  obtain ⟨hb, hn, s3, -, s5, hnd, hnu, -, c10, d10, c11, d11, c12, d12⟩ := hSA
  obtain ⟨f1, f2, f3, f4, f5, f6, f7⟩ := hR1
  obtain ⟨nt, -, t1, t2, -⟩ := hRT
  obtain ⟨nu', -, u1, u2, -⟩ := hRU
  obtain ⟨nh, -, -, -, -, h1, h2, -⟩ := hRH
  obtain ⟨no, -, -, -, -, o1, o2, -⟩ := hRO
  obtain ⟨np, -, p1, p2, -⟩ := hRP
  have hm : fM_count N v1 S = bM_count_70 N v1 (nI (cntv (mA S 54) 2 nu)) (nI (cntv (mA S 54) 3 nu)) (pF S 0 0) := ct_loop (S := pF S 0 0) N v1 hb hn d11 hnu N 0 (by omega) (by omega)
  have hua : ∀ v : Int32, fC_X4_unitsAt N K (z + 8) v M = some (nI (cntv (cI M (z + 9)) v 24), M) := fun v => by
    have := ua_loop (z := z) N hLY v N 0 0 (by omega) (by omega) (by omega)
    unfold fC_X4_unitsAt
    have e : (0 : Nat) + (cntv (cI M (z + 9)) v 24 - cntv (cI M (z + 9)) v 0) = cntv (cI M (z + 9)) v 24 := by
      show 0 + (_ - 0) = _
      omega
    rw [e] at this
    exact this
  have hst : ∀ v : Int32, v ≠ 0 → cntv (cI M (z + 9)) v 24 = cntv (mA S 54) v nu := fun v hv => by
    refine cntv_eq hnu (fun u hu => (hRE u (by omega)).1) (fun u h1 h2 e => hv ?_)
    obtain ⟨e1, -, -, -, -, -, -, -, e2⟩ := hRE u h2
    rw [e1, e2 h1] at e
    exact e.symm
  unfold fS_count
  rw [gd_k hLY.k9, hm]
  unfold fC_X8_count bM_count_70 bC_X8_count_171 bM_count_216
  have hn' : mF (pF S 0 0) 11 = nI b := hn
  have d10' : mA (pF S 0 0) 13 b = nI nd := d10
  have d11' : mA (pF S 0 0) 18 b = nI nu := d11
  have d12' : mA (pF S 0 0) 35 b = nI nm := d12
  rw [hn', ck_n (show b < 2 by omega) (by decide), ck_n (show b < 2 by omega) (by decide), ck_n (show b < 2 by omega) (by decide), nI_clamp (show b < 2 ^ 31 by omega), d10', d11', d12']
  by_cases a0 : v1 = 0
  · rw [if_pos a0, if_pos a0, gd_k hLY.k9, nn_s s3, gd_k s5]
    exact fin c10
  rw [if_neg a0, if_neg a0]
  by_cases a1 : v1 = 1
  · rw [if_pos a1, if_pos a1, gd_k hLY.k9, nn_s s3, gd_k s5]
    exact fin c11
  rw [if_neg a1, if_neg a1]
  by_cases a2 : v1 = 2
  · rw [if_pos a2, if_pos a2, gd_k hLY.k9, nn_s s3, gd_k s5]
    exact fin c12
  rw [if_neg a2, if_neg a2]
  by_cases a3 : v1 = 3
  · rw [if_pos a3, if_pos a3, gd_k hLY.k9, nn_s (hLY.r0 2 8 (by decide)), gd_k (hLY.k 8 5 0 rfl), hua]
    exact fin (by rw [hst 2 (by decide)])
  rw [if_neg a3, if_neg a3]
  by_cases a4 : v1 = 4
  · rw [if_pos a4, if_pos a4, gd_k hLY.k9, nn_s (hLY.r0 2 8 (by decide)), gd_k (hLY.k 8 5 0 rfl), hua]
    exact fin (by rw [hst 3 (by decide)])
  rw [if_neg a4, if_neg a4]
  by_cases a5 : v1 = 5
  · rw [if_pos a5, if_pos a5, gd_k hLY.k9, nn_s (hLY.r0 4 30 (by decide)), gd_k (hLY.k 30 1 0 rfl)]
    exact fin (h1.trans h2.symm)
  rw [if_neg a5, if_neg a5]
  by_cases a6 : v1 = 6
  · rw [if_pos a6, if_pos a6, gd_k hLY.k9, nn_s (hLY.r0 4 30 (by decide)), gd_k (hLY.k 30 1 0 rfl)]
    exact fin (o1.trans o2.symm)
  rw [if_neg a6, if_neg a6]
  by_cases a7 : v1 = 7
  · rw [if_pos a7, if_pos a7, gd_k hLY.k9, nn_s (hLY.r0 4 30 (by decide)), gd_k (hLY.k 30 1 0 rfl)]
    exact fin (u1.trans u2.symm)
  rw [if_neg a7, if_neg a7]
  by_cases a8 : v1 = 8
  · rw [if_pos a8, if_pos a8, gd_k hLY.k9, nn_s (hLY.r0 2 8 (by decide)), gd_k (hLY.k 8 5 0 rfl)]
    exact fin f1
  rw [if_neg a8, if_neg a8]
  by_cases a9 : v1 = 9
  · rw [if_pos a9, if_pos a9, gd_k hLY.k9, nn_s (hLY.r0 5 35 (by decide)), gd_k (hLY.k 35 3 0 rfl)]
    exact fin f7
  rw [if_neg a9, if_neg a9]
  by_cases a10 : v1 = 10
  · rw [if_pos a10, if_pos a10, gd_k hLY.k9]
    exact fin f4
  rw [if_neg a10, if_neg a10]
  by_cases a11 : v1 = 11
  · rw [if_pos a11, if_pos a11, gd_k hLY.k9, f5]
    have y : mF (pF S 0 0) 64 = mF S 64 := rfl
    rw [y]
    by_cases e : mF S 64 = 0
    · rw [if_pos e, if_pos e]; exact fin rfl
    · rw [if_neg e, if_neg e]; exact fin rfl
  rw [if_neg a11, if_neg a11]
  by_cases a12 : v1 = 12
  · rw [if_pos a12, if_pos a12, gd_k hLY.k9, nn_s (hLY.r0 2 8 (by decide)), gd_k (hLY.k 8 5 0 rfl)]
    exact fin (p1.trans p2.symm)
  rw [if_neg a12, if_neg a12]
  by_cases a13 : v1 = 13
  · rw [if_pos a13, if_pos a13, gd_k hLY.k9, nn_s (hLY.r0 0 1 (by decide)), gd_k (hLY.k 1 7 0 rfl)]
    exact fin (t1.trans t2.symm)
  rw [if_neg a13, if_neg a13]
  exact fin rfl
end GETE
