/-! a number -/
theorem nL_int {n : Nat} (h : n < 2 ^ 31) : ((nI n).toInt64).toInt = n := by rw [Int32.toInt_toInt64, nI_int h]
theorem isDb_1 {c : Int32} (h : isDb c ≠ 0) : ∃ m, 48 ≤ m ∧ m ≤ 57 ∧ c = nI m := by
  unfold isDb at h
  by_cases h1 : c < 48
  · rw [if_pos h1] at h; exact absurd rfl h
  · rw [if_neg h1] at h
    by_cases h2 : 57 < c
    · rw [if_pos h2] at h; exact absurd rfl h
    · have c0 : ¬ c < 0 := fun q => h1 (Int32.lt_of_lt_of_le q (by decide))
      obtain ⟨m, hm, rfl⟩ := nI_of c0
      exact ⟨m, Nat.not_lt.mp fun q => h1 (nI_lt (b := 48) q (by decide)), Nat.not_lt.mp fun q => h2 (nI_lt (a := 57) q hm), rfl⟩
theorem dg_c {q m : Nat} (hq : q < 200000000) (h1 : 48 ≤ m) (h2 : m ≤ 57) : (nI q).toInt64 * 10 + ((nI m - 48 : Int32).toInt64) = (nI (q * 10 + (m - 48))).toInt64 := by
  rw [show (48 : Int32) = nI 48 from rfl, nI_sub h1 (by omega)]
  apply Int64.toInt_inj.mp
  rw [Int64.toInt_add, Int64.toInt_mul, nL_int (by omega), nL_int (by omega), nL_int (by omega), show (10 : Int64).toInt = 10 from rfl, bmod64 (x := (q : Int) * 10) (by omega) (by omega), bmod64 (by omega) (by omega)]
  omega
theorem dg_m {q m : Nat} (hq : q < 200000000) (h1 : 48 ≤ m) (h2 : m ≤ 57) : (10 * (nI q).toInt64 + (nI m).toInt64) - 48 = (nI (q * 10 + (m - 48))).toInt64 := by
  apply Int64.toInt_inj.mp
  rw [Int64.toInt_sub, Int64.toInt_add, Int64.toInt_mul, nL_int (by omega), nL_int (by omega), nL_int (by omega), show (10 : Int64).toInt = 10 from rfl, show (48 : Int64).toInt = 48 from rfl, bmod64 (x := 10 * (q : Int)) (by omega) (by omega), bmod64 (x := 10 * (q : Int) + m) (by omega) (by omega), bmod64 (by omega) (by omega)]
  omega
theorem i01 {p : Prop} (hp : Decidable p) {y : Int32} (h : y = 0 ∨ y = 1) : (if p then (1 : Int32) else y) = 0 ∨ (if p then (1 : Int32) else y) = 1 := by
  by_cases q : p
  · rw [if_pos q]; exact Or.inr rfl
  · rw [if_neg q]; exact h
theorem sg_01 (x : Int32) : sgb x = 0 ∨ sgb x = 1 := i01 _ (i01 _ (i01 _ (i01 _ (i01 _ (i01 _ (i01 _ (i01 _ (i01 _ (i01 _ (i01 _ (i01 _ (i01 _ (i01 _ (Or.inl rfl))))))))))))))
section NUMBER
variable {z : Nat} {K : Ka} {M : Cm} {S : Ms}
theorem nr_loop {size fr : Nat} (h : SG z K M S size) (N : Nat) (kC : Nat → Int32 → Int64 → Int32 → Cm → Option (Int32 × Cm)) (kM : Int32 → Int32 → Int32 → Int64 → Ms → Option Ms) (x1 : Int32) : ∀ (n k : Nat) (x2 x5 : Int64), fr ≤ k → k ≤ size → size < n + k → (k - fr ≤ 9 → ∃ q, q < 10 ^ (k - fr) ∧ x2 = (nI q).toInt64 ∧ x5 = (nI q).toInt64) →
    ∃ e y2 y5, k ≤ e ∧ e ≤ size ∧ (e - fr ≤ 9 → ∃ q, q < 10 ^ (e - fr) ∧ y2 = (nI q).toInt64 ∧ y5 = (nI q).toInt64) ∧ (k < size → isDb (mA S 1 k) ≠ 0 → k < e) ∧ lC_X6_scanNumber_5 N K kC n (z + 1) (nI fr) x2 (nI k) M = kC (z + 1) (nI fr) y2 (nI e) M ∧ lM_cutAll_171 N kM n x1 (nI k) (nI fr) x5 S = kM x1 (nI e) (nI fr) y5 S := by
  obtain ⟨hLY, h2, h3, h4, h5, h6⟩ := h
  have l2 := hLY.l 2 21 4000 rfl (by decide)
  have r0 := hLY.r 1 0 2 (by decide)
  intro n
  induction n with
  | zero => intro k x2 x5 q1 q2 q3; omega
  | succ n ih =>
    intro k x2 x5 q1 q2 q3 q4
    rw [lC_X6_scanNumber_5, lM_cutAll_171, gd_k (hLY.k 1 7 0 rfl), h3, h4]
    by_cases hk : k < size
    · obtain ⟨e1, -⟩ := h5 k hk
      rw [if_neg (nI_ge hk (by omega)), if_neg (nI_ge hk (by omega)), nn_s r0, gd_k (hLY.k 2 21 4000 rfl), l2, ck_n (show k < 4000 by omega) (by decide), ck_n (show k < 4000 by omega) (by decide), nI_clamp (by omega), x_isD, m_isD, bs, bs, e1]
      dsimp only
      by_cases hD : isDb (mA S 1 k) = 0
      · rw [if_pos hD, if_pos hD]
        exact ⟨k, x2, x5, Nat.le_refl k, q2, q4, fun _ q => absurd hD q, rfl, rfl⟩
      · rw [if_neg hD, if_neg hD, nn_s r0, gd_k (hLY.k 2 21 4000 rfl), l2, ck_n (show k < 4000 by omega) (by decide), nI_sub q1 (by omega), nI_1, e1]
        unfold bM_cutAll_223
        rw [nI_1]
        by_cases h9 : 9 ≤ k - fr
        · rw [if_pos (show (9 : Int32) ≤ nI (k - fr) from nI_le (a := 9) h9 (by omega))]
          obtain ⟨e, y2, y5, a1, a2, a3, a4, a5, a6⟩ := ih (k + 1) (x2 * 10 + (mA S 1 k - 48).toInt64) x5 (by omega) (by omega) (by omega) (fun q => by omega)
          exact ⟨e, y2, y5, by omega, a2, a3, fun _ _ => by omega, a5, a6⟩
        · rw [if_neg (show ¬ (9 : Int32) ≤ nI (k - fr) from nI_ge (b := 9) (by omega) (by decide)), ck_n (show k < 4000 by omega) (by decide)]
          obtain ⟨e, y2, y5, a1, a2, a3, a4, a5, a6⟩ := ih (k + 1) (x2 * 10 + (mA S 1 k - 48).toInt64) (((10 * x5) + (mA S 1 k).toInt64) - 48) (by omega) (by omega) (by omega) (fun q => by
            obtain ⟨q, g1, g2, g3⟩ := q4 (by omega)
            obtain ⟨m, m1, m2, m3⟩ := isDb_1 hD
            have hp : (10 : Nat) ^ (k - fr) ≤ 10 ^ 8 := Nat.pow_le_pow_right (by omega) (by omega)
            have hq : q < 200000000 := by omega
            refine ⟨q * 10 + (m - 48), ?_, ?_, ?_⟩
            · rw [show k + 1 - fr = (k - fr) + 1 by omega, Nat.pow_succ]; omega
            · rw [g2, m3, dg_c hq m1 m2]
            · rw [g3, m3, dg_m hq m1 m2])
          exact ⟨e, y2, y5, by omega, a2, a3, fun _ _ => by omega, a5, a6⟩
    · rw [if_pos (nI_le (by omega) (by omega)), if_pos (nI_le (by omega) (by omega))]
      exact ⟨k, x2, x5, Nat.le_refl k, q2, q4, fun q => by omega, rfl, rfl⟩
/-- what comes behind a walk over the signs -/
def TK (z : Nat) (M : Cm) (S : Ms) (size t : Nat) : Prop := t ≤ size ∧ size ≤ 4000 ∧ cI M (z + 1) 6 = nI (t + 1) ∧ cI M (z + 3) t = 0 ∧ cI M (z + 4) t = nI size ∧ mA S 4 t = 0 ∧ mA S 5 t = nI size ∧ mF S 7 = 0 ∧ mF S 8 = 0 ∧ mF S 3 = nI size ∧ cI M (z + 1) 5 = nI size ∧ ∀ j, j < t → TK1 z M S j
theorem sc_loop (N : Nat) (hN : 4001 < N) {size : Nat} : ∀ (n k u t : Nat) (M : Cm) (S : Ms), SG z K M S size → k ≤ size → u ≤ k → t ≤ k → size < n + k → cI M (z + 1) 6 = nI t → (∀ j, j < t → TK1 z M S j) →
    ∃ M' S' t', lC_X6_scan_9 N K (bC_X6_scan_104 N K) n (z + 1) (nI k) (nI u) M = some M' ∧ lM_cutAll_17 N (bM_cutAll_293 N) n (nI t) (nI k) S = some S' ∧ TK z M' S' size t' ∧ AgM (fun a => a ≠ z + 1 ∧ a ≠ z + 3 ∧ a ≠ z + 4 ∧ a ≠ z + 5) M M' ∧ AgS (fun k => k ≠ 7 ∧ k ≠ 8) (fun k => k ≠ 4 ∧ k ≠ 5 ∧ k ≠ 6) S S' := by
  intro n
  induction n with
  | zero => intro k u t M S h q1 q2 q3 q4; omega
  | succ n ih =>
    intro k u t M S h q1 q2 q3 q4 h6t hT
    obtain ⟨hLY, h2, h3, h4, h5, h6⟩ := id h
    have l2 := hLY.l 2 21 4000 rfl (by decide)
    have r0 := hLY.r 1 0 2 (by decide)
    -- the end
    have fin1 : k = size → bC_X6_scan_104 N K (z + 1) M = some (aTk z M t 0 (nI size) 0) := fun _ => by
      unfold bC_X6_scan_104
      rw [gd_k (hLY.k 1 7 0 rfl), h3, at_ok hLY N (by omega) h6t]
      rfl
    have fin2 : k = size → ∃ M' S' t', bC_X6_scan_104 N K (z + 1) M = some M' ∧ bM_cutAll_293 N (nI t) S = some S' ∧ TK z M' S' size t' ∧ AgM (fun a => a ≠ z + 1 ∧ a ≠ z + 3 ∧ a ≠ z + 4 ∧ a ≠ z + 5) M M' ∧ AgS (fun k => k ≠ 7 ∧ k ≠ 8) (fun k => k ≠ 4 ∧ k ≠ 5 ∧ k ≠ 6) S S' := fun ek => by
      refine ⟨_, pF (pF (pA (pA S 4 t 0) 5 t (nI size)) 7 0) 8 0, t, fin1 ek, ?_, ?_, a_ag _ _ _ _, ?_⟩
      · unfold bM_cutAll_293
        rw [ck_n (show t < 4002 by omega) (by decide), ck_n (show t < 4002 by omega) (by decide), nI_clamp (by omega), mF_A, h4]
      · refine ⟨by omega, h2, a_6 _ _ _ _, by rw [a_3, if_pos rfl], by rw [a_4, if_pos rfl], ?_, ?_, ?_, ?_, ?_, by rw [a_s _ _ _ _ (by decide)]; exact h3, fun j hj => ?_⟩
        · rw [mA_F, mA_F, mA_Ane _ _ _ (by decide), mA_A, if_pos ⟨rfl, rfl⟩]
        · rw [mA_F, mA_F, mA_A, if_pos ⟨rfl, rfl⟩]
        · rw [mF_F, if_neg (by decide), mF_F, if_pos rfl]
        · rw [mF_F, if_pos rfl]
        · rw [mF_F, if_neg (by decide), mF_F, if_neg (by decide), mF_A, mF_A]; exact h4
        · have := hT j hj
          unfold TK1 at this ⊢
          rw [a_3, a_4, a_5, if_neg (by omega), if_neg (by omega), if_neg (by omega), mA_F, mA_F, mA_Ane _ _ _ (show 4 ≠ 5 by decide), mA_A, if_neg (by omega), mA_A, if_neg (by omega), mA_Ane _ _ _ (show 5 ≠ 4 by decide)]
          exact this
      · exact ⟨fun q hq => by rw [mF_F, if_neg hq.2, mF_F, if_neg hq.1, mF_A, mF_A], fun q hq => by rw [mA_F, mA_F, mA_Ane _ _ _ hq.2.1, mA_Ane _ _ _ hq.1], fun _ _ => rfl⟩
    -- on
    have on : ∀ (k' t' : Nat) (M1 : Cm) (S1 : Ms), SG z K M1 S1 size → k < k' → k' ≤ size → t' ≤ k' → cI M1 (z + 1) 6 = nI t' → (∀ j, j < t' → TK1 z M1 S1 j) → AgM (fun a => a ≠ z + 1 ∧ a ≠ z + 3 ∧ a ≠ z + 4 ∧ a ≠ z + 5) M M1 → AgS (fun _ => True) (fun k => k ≠ 4 ∧ k ≠ 5 ∧ k ≠ 6) S S1 → ∃ M' S' t'', lC_X6_scan_9 N K (bC_X6_scan_104 N K) n (z + 1) (nI k') (nI (u + 1)) M1 = some M' ∧ lM_cutAll_17 N (bM_cutAll_293 N) n (nI t') (nI k') S1 = some S' ∧ TK z M' S' size t'' ∧ AgM (fun a => a ≠ z + 1 ∧ a ≠ z + 3 ∧ a ≠ z + 4 ∧ a ≠ z + 5) M M' ∧ AgS (fun k => k ≠ 7 ∧ k ≠ 8) (fun k => k ≠ 4 ∧ k ≠ 5 ∧ k ≠ 6) S S' := fun k' t' M1 S1 g1 g2 g3 g4 g5 g6 g7 g8 => by
      obtain ⟨M', S', t'', a1, a2, a3, a4, a5⟩ := ih k' (u + 1) t' M1 S1 g1 g3 (by omega) g4 (by omega) g5 g6
      exact ⟨M', S', t'', a1, a2, a3, ⟨fun a ha => by rw [a4.1 a ha, g7.1 a ha], fun a ha => by rw [a4.2.1 a ha, g7.2.1 a ha], by rw [a4.2.2, g7.2.2]⟩, ⟨fun q hq => by rw [a5.1 q hq, g8.1 q trivial], fun q hq => by rw [a5.2.1 q hq, g8.2.1 q hq], fun q hq => by rw [a5.2.2 q hq, g8.2.2 q hq]⟩⟩
    have tok : ∀ (e : Nat) (kd : Int32) (v : Int64) (so : Int32) (w : Int64), k < e → e ≤ size → tk1 kd (nI k) v so (nI k) w → ∃ M' S' t'', lC_X6_scan_9 N K (bC_X6_scan_104 N K) n (z + 1) (nI e) (nI (u + 1)) (aTk z M t kd (nI k) v) = some M' ∧ lM_cutAll_17 N (bM_cutAll_293 N) n (nI (t + 1)) (nI e) (mTk S t so (nI k) w) = some S' ∧ TK z M' S' size t'' ∧ AgM (fun a => a ≠ z + 1 ∧ a ≠ z + 3 ∧ a ≠ z + 4 ∧ a ≠ z + 5) M M' ∧ AgS (fun k => k ≠ 7 ∧ k ≠ 8) (fun k => k ≠ 4 ∧ k ≠ 5 ∧ k ≠ 6) S S' := fun e kd v so w g1 g2 g3 => on e (t + 1) _ _ h.add g1 g2 (by omega) (a_6 _ _ _ _) (tk_add hT g3) (a_ag _ _ _ _) (t_ag _ _ _ _)
    rw [lC_X6_scan_9, lM_cutAll_17, h4]
    by_cases hk : k < size
    · obtain ⟨e1, c, hc, ec⟩ := h5 k hk
      rw [if_neg (show ¬ (4000 : Int32) ≤ nI u from nI_ge (b := 4000) (by omega) (by decide)), gd_k (hLY.k 1 7 0 rfl), h3, if_neg (nI_ge hk (by omega)), if_neg (nI_ge hk (by omega)), nn_s r0, gd_k (hLY.k 2 21 4000 rfl), l2, ck_n (show k < 4000 by omega) (by decide), ck_n (show k < 4000 by omega) (by decide), nI_clamp (show k < 2 ^ 31 by omega), x_isL, bs, e1, ec]
      dsimp only
      have hc126 : c ≤ 126 := by omega
      have pk : ∃ p, p ≤ 4000 ∧ nI k = nI p := ⟨k, by omega, rfl⟩
      by_cases c10 : c = 10
      · subst c10
        rw [if_pos (show isLb (nI 10) = 0 by decide), x_isD, bs]
        dsimp only
        rw [if_pos (show isDb (nI 10) = 0 by decide), if_neg (show ¬ nI 10 = 32 by decide), if_pos (show nI 10 = 10 by decide), if_pos (show nI 10 = 10 by decide)]
        unfold bC_X6_scan_95 bC_X6_scan_98 bM_cutAll_44
        rw [nI_1, nI_1]
        exact on (k + 1) t M S h (by omega) (by omega) (by omega) h6t hT ⟨fun _ _ => rfl, fun _ _ => rfl, rfl⟩ ⟨fun _ _ => rfl, fun _ _ => rfl, fun _ _ => rfl⟩
      by_cases c32 : c = 32
      · subst c32
        rw [if_pos (show isLb (nI 32) = 0 by decide), x_isD, bs]
        dsimp only
        rw [if_pos (show isDb (nI 32) = 0 by decide), if_pos (show nI 32 = 32 by decide), if_neg (show ¬ nI 32 = 10 by decide), if_pos (show nI 32 = 32 by decide)]
        unfold bC_X6_scan_95 bC_X6_scan_98 bM_cutAll_44
        rw [nI_1, nI_1]
        exact on (k + 1) t M S h (by omega) (by omega) (by omega) h6t hT ⟨fun _ _ => rfl, fun _ _ => rfl, rfl⟩ ⟨fun _ _ => rfl, fun _ _ => rfl, fun _ _ => rfl⟩
      have n10 : ¬ nI c = 10 := fun q => c10 ((nI_eq (b := 10) (by omega) (by decide)).mp q)
      have n32 : ¬ nI c = 32 := fun q => c32 ((nI_eq (b := 32) (by omega) (by decide)).mp q)
      have h' : SG z K M (pA S 5 t (nI k)) size := ⟨hLY, h2, h3, h4, h5, h6⟩
      have e5 : mA (pA S 5 t (nI k)) 1 k = nI c := ec
      rw [if_neg n10, if_neg n32, ck_n (show t < 4002 by omega) (by decide), nI_clamp (show t < 2 ^ 31 by omega), m_isL, bs]
      dsimp only
      by_cases hL : isLb (nI c) = 0
      · rw [if_pos hL, if_pos hL, x_isD, m_isD, bs, bs]
        dsimp only
        by_cases hD : isDb (nI c) = 0
        · rw [if_pos hD, if_pos hD, if_neg n32, if_neg n10, gd_t (by decide), m_sg, bs]
          dsimp only
          obtain ⟨r, i1, i2⟩ := ix_ok N (by omega) K M hc126
          rw [i1, bs]
          dsimp only
          unfold bC_X6_scan_90 bC_X6_scan_95 bC_X6_scan_98 bM_cutAll_275 bM_cutAll_279
          rw [ck_n (show t < 4002 by omega) (by decide), ck_n (show t < 4002 by omega) (by decide), nI_clamp (show t < 2 ^ 31 by omega), nI_1, nI_1, nI_1, gd_k (hLY.k 1 7 0 rfl)]
          by_cases hg : sgb (nI c) = 0
          · rw [if_pos (i2.mpr hg), if_pos hg, at_ok hLY N (by omega) h6t, bs]
            exact tok (k + 1) 1 0 4 (nI c).toInt64 (by omega) (by omega) ⟨rfl, pk, Or.inr (Or.inr (Or.inr ⟨rfl, rfl⟩))⟩
          · rw [if_neg (fun q => hg (i2.mp q)), if_neg hg, gd_k (hLY.k 1 7 0 rfl), at_ok hLY N (by omega) h6t, bs, ck_n (show t < 4002 by omega) (by decide), ck_n (show t < 4002 by omega) (by decide)]
            have hg1 : sgb (nI c) = 1 := (sg_01 (nI c)).resolve_left hg
            exact tok (k + 1) (nI c) 0 3 (nI c).toInt64 (by omega) (by omega) ⟨rfl, pk, Or.inr (Or.inr (Or.inl ⟨rfl, c, by omega, hc126, hg1, rfl, rfl⟩))⟩
        · rw [if_neg hD, if_neg hD]
          obtain ⟨e, y2, y5, a1, a2, a3, a4, a5, a6⟩ := nr_loop (fr := k) h' N (bC_X6_scanNumber_51 N K) (bM_cutAll_231 N (lM_cutAll_17 N (bM_cutAll_293 N) n) (bM_cutAll_293 N)) (nI t) N k 0 0 (Nat.le_refl k) q1 (by omega) (fun _ => ⟨0, by rw [Nat.sub_self]; decide, rfl, rfl⟩)
          have ke : k < e := a4 hk (by rw [e5]; exact hD)
          unfold fC_X6_scanNumber
          rw [a5, a6]
          unfold bC_X6_scanNumber_51 bC_X6_scanNumber_66 bM_cutAll_231 bM_cutAll_250 bM_cutAll_279
          rw [nI_sub a1 (by omega), ck_n (show t < 4002 by omega) (by decide), nI_clamp (show t < 2 ^ 31 by omega)]
          by_cases h9 : e - k ≤ 9
          · obtain ⟨q, g1, g2, g3⟩ := a3 h9
            have hp : (10 : Nat) ^ (e - k) ≤ 10 ^ 9 := Nat.pow_le_pow_right (by omega) h9
            rw [if_pos (show nI (e - k) ≤ 9 from nI_le (b := 9) h9 (by decide)), if_pos (show nI (e - k) ≤ 9 from nI_le (b := 9) h9 (by decide)), ck_n (show t < 4002 by omega) (by decide), nI_1, gd_k (hLY.k 1 7 0 rfl), at_ok hLY N (by omega) h6t, bs, bs]
            unfold bC_X6_scan_98
            rw [nI_1]
            exact tok e 3 y2 2 y5 ke a2 ⟨rfl, pk, Or.inr (Or.inl ⟨rfl, rfl, g2.trans g3.symm, q, by omega, g3⟩)⟩
          · rw [if_neg (show ¬ nI (e - k) ≤ 9 from nI_ge (a := 9) (by omega) (by omega)), if_neg (show ¬ nI (e - k) ≤ 9 from nI_ge (a := 9) (by omega) (by omega)), ck_n (show t < 4002 by omega) (by decide), ck_n (show t < 4002 by omega) (by decide), nI_1, gd_k (hLY.k 1 7 0 rfl), at_ok hLY N (by omega) h6t, bs, bs]
            unfold bC_X6_scan_98
            rw [nI_1]
            exact tok e 1 y2 4 y5 ke a2 ⟨rfl, pk, Or.inr (Or.inr (Or.inr ⟨rfl, rfl⟩))⟩
      · rw [if_neg hL, if_neg hL]
        obtain ⟨e, y2, y5, a1, a2, a3, a4, a5, a6⟩ := wd_loop (fr := k) h' N (bC_X6_scanWord_64 N K) (bM_cutAll_141 N (lM_cutAll_17 N (bM_cutAll_293 N) n) (bM_cutAll_293 N)) (nI t) N k 0 0 (Nat.le_refl k) q1 (by omega) (fun _ => rfl)
        have ke : k < e := a4 hk (by rw [e5]; exact hL)
        unfold fC_X6_scanWord
        rw [a5, a6]
        unfold bC_X6_scanWord_64 bC_X6_scanWord_112 bM_cutAll_141 bM_cutAll_160 bM_cutAll_279
        rw [nI_sub a1 (by omega), ck_n (show t < 4002 by omega) (by decide), nI_clamp (show t < 2 ^ 31 by omega)]
        by_cases h12 : e - k ≤ 12
        · have ey := a3 h12
          rw [if_pos (show nI (e - k) ≤ 12 from nI_le (b := 12) h12 (by decide)), if_pos (show nI (e - k) ≤ 12 from nI_le (b := 12) h12 (by decide)), ck_n (show t < 4002 by omega) (by decide), nI_1, gd_k (hLY.k 1 7 0 rfl), nn_s (hLY.r 1 4 6 (by decide))]
          have l6 := hLY.l 6 23 25 rfl (by decide)
          have rk := rk_ok N (M := M) y2 (hLY.k 6 23 25 rfl) (n := 25) (by omega) (by omega) N 0 (by omega) (by omega)
          rcases rk with ⟨r, r1, r2, r3, r4, r5⟩ | ⟨r1, r2⟩
          · have r5' : fC_X8_rankOf N K y2 (z + 6) 25 M = some (nI r, M) := r5
            rw [r5', bs]
            dsimp only
            rw [if_neg (show ¬ nI r = -1 from fun q => nI_pos (show r < 2 ^ 31 by omega) (by rw [q]; decide)), gd_k (hLY.k 1 7 0 rfl), at_ok hLY N (by omega) h6t, bs, bs, show (128 : Int32) + nI r = nI (128 + r) from nI_add 128 r]
            unfold bC_X6_scan_98
            rw [nI_1]
            exact tok e (nI (128 + r)) y2 1 y5 ke a2 ⟨rfl, pk, Or.inl ⟨rfl, ey, Or.inl ⟨r, r2, by rw [← ey, ← r3, h6], rfl⟩⟩⟩
          · have r2' : fC_X8_rankOf N K y2 (z + 6) 25 M = some (-1, M) := r2
            rw [r2', bs]
            dsimp only
            rw [if_pos rfl, gd_k (hLY.k 1 7 0 rfl), at_ok hLY N (by omega) h6t, bs, bs]
            unfold bC_X6_scan_98
            rw [nI_1]
            exact tok e 2 y2 1 y5 ke a2 ⟨rfl, pk, Or.inl ⟨rfl, ey, Or.inr ⟨fun r hr q => r1 r (by omega) hr (by rw [h6, ey, q]), rfl⟩⟩⟩
        · rw [if_neg (show ¬ nI (e - k) ≤ 12 from nI_ge (a := 12) (by omega) (by omega)), if_neg (show ¬ nI (e - k) ≤ 12 from nI_ge (a := 12) (by omega) (by omega)), ck_n (show t < 4002 by omega) (by decide), ck_n (show t < 4002 by omega) (by decide), nI_1, gd_k (hLY.k 1 7 0 rfl), at_ok hLY N (by omega) h6t, bs, bs]
          unfold bC_X6_scan_98
          rw [nI_1]
          exact tok e 1 0 4 y5 ke a2 ⟨rfl, pk, Or.inr (Or.inr (Or.inr ⟨rfl, rfl⟩))⟩
    · have ek : k = size := by omega
      by_cases hu : 4000 ≤ u
      · rw [if_pos (show (4000 : Int32) ≤ nI u from nI_le (a := 4000) hu (by omega)), if_pos (nI_le (by omega) (by omega))]
        exact fin2 ek
      · rw [if_neg (show ¬ (4000 : Int32) ≤ nI u from nI_ge (b := 4000) (by omega) (by decide)), gd_k (hLY.k 1 7 0 rfl), h3, if_pos (nI_le (by omega) (by omega)), if_pos (nI_le (by omega) (by omega))]
        exact fin2 ek
end NUMBER
