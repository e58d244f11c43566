/-! clear, plan -/
theorem fill_loop (N : Nat) {K : Ka} {a len : Nat} (v : Int32) (hk : kd K a = 22) (hl : le K a = len) (hlen : len < 2 ^ 31) : ∀ (n i : Nat) (M : Cm), i ≤ len → len < n + i → ∃ M', lC_J7_fill_53178_5 N K (bC_J7_fill_53178_20 N K) n a v (nI i) (nI len) M = some M' ∧ (∀ b, b ≠ a → cI M' b = cI M b) ∧ cL M' = cL M ∧ cR M' = cR M ∧ ∀ j, cI M' a j = if i ≤ j ∧ j < len then v else cI M a j := by
  intro n
  induction n with
  | zero => intro i M hi hn; omega
  | succ n ih =>
    intro i M hi hn
    rw [lC_J7_fill_53178_5]
    by_cases e : i = len
    · subst e
      rw [if_pos (nI_le (Nat.le_refl _) hlen)]
      refine ⟨M, rfl, fun _ _ => rfl, rfl, rfl, fun j => ?_⟩
      rw [if_neg (by omega)]
    · rw [if_neg (nI_ge (show i < len by omega) hlen), gd_k hk, hl, ck_n (show i < len by omega) hlen, nI_clamp (by omega), nI_1]
      obtain ⟨M', e1, e2, e3, e4, e5⟩ := ih (i + 1) (wI M a i v) (by omega) (by omega)
      refine ⟨M', e1, fun b hb => (e2 b hb).trans (cI_wI_ne _ _ _ hb), e3, e4, fun j => ?_⟩
      rw [e5 j, cI_w]
      by_cases ej : j = i
      · subst ej
        rw [if_neg (by omega), if_pos ⟨rfl, rfl⟩, if_pos (by omega)]
      · rw [if_neg (show ¬ (a = a ∧ j = i) from fun q => ej q.2)]
        by_cases hj : i + 1 ≤ j ∧ j < len
        · rw [if_pos hj, if_pos (by omega)]
        · rw [if_neg hj, if_neg (by omega)]
section PLAN
variable {z : Nat} {K : Ka} {M : Cm} {S : Ms} {b st nd nu nm : Nat}
theorem drop_ok (hLY : LY z K M) (N : Nat) (hN : 136 < N) : ∃ M', fC_X4_dropPlans N K (z + 8) M = some M' ∧ AgM (fun a => a ≠ z + 8 ∧ a ≠ z + 16) M M' ∧ (∀ j, j < 24 → cI M' (z + 16) j = 0) ∧ cI M' (z + 8) 10 = 0 ∧ ∀ j, j ≠ 10 → cI M' (z + 8) j = cI M (z + 8) j := by
  obtain ⟨M1, e1, e2, e3, e4, e5⟩ := fill_loop N (K := K) (a := z + 16) 0 (hLY.k 16 22 24 rfl) (hLY.l 16 22 24 rfl (by decide)) (by decide) N 0 M (by omega) (by omega)
  have ef : fC_J7_fill_53178 N K (z + 16) 0 M = some M1 := by
    unfold fC_J7_fill_53178
    rw [gd_k (hLY.k 16 22 24 rfl), hLY.l 16 22 24 rfl (by decide)]
    exact e1
  refine ⟨wI M1 (z + 8) 10 0, ?_, ⟨fun a ha => ?_, fun a _ => by rw [cL_I, e3], e4⟩, fun j hj => ?_, ?_, fun j hj => ?_⟩
  · unfold fC_X4_dropPlans
    rw [gd_k (hLY.k 8 5 0 rfl), nn_s (hLY.r 8 7 16 (by decide)), ef, bs]
  · rw [cI_wI_ne _ _ _ ha.1]
    exact e2 a ha.2
  · rw [cI_wI_ne _ _ _ (show z + 16 ≠ z + 8 by omega), e5 j, if_pos (by omega)]
  · rw [cI_w, if_pos ⟨rfl, rfl⟩]
  · rw [cI_w, if_neg (fun q => hj q.2), e2 (z + 8) (by omega)]
theorem g_clear (h : RelP z K M S b st nd nu nm) (N : Nat) (hN : 136 < N) : ∃ M' S', fS_clear N z K M S = some (K, M', S') ∧ RelP z K M' S' b st nd nu nm ∧ FRQ z M M' S S' := by
  obtain ⟨M', e1, hM, e3, e4, e5⟩ := drop_ok h.1 N hN
  have hS : AgS (fun k => k ≠ 0 ∧ k ≠ 71) (fun _ => True) S (pF (pF S 0 0) 71 0) := ⟨fun k hk => by rw [mF_F, if_neg hk.2, mF_F, if_neg hk.1], fun k _ => rfl, fun _ _ => rfl⟩
  refine ⟨M', pF (pF S 0 0) 71 0, ?_, ?_, FRQ.of hM hS (fun a _ _ => by omega) (by decide) (fun _ _ => trivial)⟩
  · unfold fS_clear fC_X8_clear fM_clear
    rw [gd_k h.1.k9, gd_k h.1.k9, nn_s (h.1.r0 2 8 (by decide)), gd_k (h.1.k 8 5 0 rfl), e1, bs, bs, bs]
  · obtain ⟨h1, h2, h3, h4, h5, h6, h7, h8, h9, h10, h11, h12, h13, h14, h15, h16, h17, h18⟩ := h
    refine ⟨h1.sb hM, ?_, h3.sb hM hS (by omega) (by decide) (by decide), h4.sb hM hS (by omega) (by decide), h5.sb hM hS (by omega) (by decide) (by decide), h6.sb hM hS (by omega) (by decide) (by decide), h7.sb hM hS (by omega) (by decide) (by decide), h8.sb hM hS (by omega) (by decide) (by decide), h9.sb hM hS (by omega) (by decide) (by decide), ?_, h11.sb hM hS (by omega) (by decide), h12.sb hM hS (by omega) (by decide), h13.sb hM hS (fun a ha => by omega) (by decide) (by decide), h14.sb hM hS (fun a ha => by omega) (by decide), h15.sb hM hS (fun a ha => by omega) (by omega) (by decide) (by decide), h16.sb hM hS (fun a ha => by omega) (by decide), h17.sb hM hS (fun a ha => by omega) (fun k _ _ => trivial), h18⟩
    · unfold R1
      rw [e5 11 (by decide), hM.1 z (by omega), hM.1 (z + 35) (by omega)]
      exact h2
    · refine ⟨0, by omega, e4, rfl, fun u e hu he => ?_, fun k hk => by omega⟩
      rw [e3 u hu, bit1 (by omega), b_0]
      constructor
      · intro q; cases q
      · rintro ⟨k, hk, -⟩; omega
theorem pl_1 (N : Nat) (k57 : Int32 → Int32 → Int32 → Ms → Option (Int32 × Ms)) (x1 x2 : Int32) {n0 : Nat} (hn : mF S 71 = nI n0) (h40 : n0 ≤ 40) : ∀ n k, k ≤ n0 → n0 < n + k → lM_plan_10 N k57 n x1 x2 1 (nI k) S = k57 x1 x2 1 S := by
  intro n
  induction n with
  | zero => intro k hk h; omega
  | succ n ih =>
    intro k hk h
    rw [lM_plan_10, hn]
    unfold bM_plan_45 bM_plan_50
    by_cases e : k = n0
    · subst e; rw [if_pos (nI_le (Nat.le_refl _) (by omega))]
    · rw [if_neg (nI_ge (show k < n0 by omega) (by omega)), if_neg (show ¬ (1 : Int32) = 0 by decide), nI_1]
      exact ih (k + 1) (by omega) (by omega)
theorem pl_e (N : Nat) (k57 : Int32 → Int32 → Int32 → Ms → Option (Int32 × Ms)) (x1 x2 : Int32) {n0 i : Nat} (hn : mF S 71 = nI n0) (h40 : n0 ≤ 40) (hi : i < n0) (m1 : mA S 69 i = x1) (m2 : mA S 70 i = x2) : ∀ n k, k ≤ i → n0 < n + k → lM_plan_10 N k57 n x1 x2 0 (nI k) S = k57 x1 x2 1 S := by
  intro n
  induction n with
  | zero => intro k hk h; omega
  | succ n ih =>
    intro k hk h
    rw [lM_plan_10, hn]
    unfold bM_plan_45 bM_plan_49 bM_plan_50
    rw [if_neg (nI_ge (show k < n0 by omega) (by omega)), if_pos rfl, ck_n (show k < 40 by omega) (by decide), ck_n (show k < 40 by omega) (by decide), nI_clamp (by omega), nI_1]
    by_cases c1 : mA S 69 k = x1
    · rw [if_pos c1]
      by_cases c2 : mA S 70 k = x2
      · rw [if_pos c2]
        exact pl_1 N k57 x1 x2 hn h40 n (k + 1) (by omega) (by omega)
      · rw [if_neg c2]
        have : k ≠ i := fun e => c2 (e ▸ m2)
        exact ih (k + 1) (by omega) (by omega)
    · rw [if_neg c1]
      have : k ≠ i := fun e => c1 (e ▸ m1)
      exact ih (k + 1) (by omega) (by omega)
theorem pl_n (N : Nat) (k57 : Int32 → Int32 → Int32 → Ms → Option (Int32 × Ms)) (x1 x2 : Int32) {n0 : Nat} (hn : mF S 71 = nI n0) (h40 : n0 ≤ 40) (no : ∀ i, i < n0 → ¬ (mA S 69 i = x1 ∧ mA S 70 i = x2)) : ∀ n k, k ≤ n0 → n0 < n + k → lM_plan_10 N k57 n x1 x2 0 (nI k) S = k57 x1 x2 0 S := by
  intro n
  induction n with
  | zero => intro k hk h; omega
  | succ n ih =>
    intro k hk h
    rw [lM_plan_10, hn]
    unfold bM_plan_45 bM_plan_49 bM_plan_50
    by_cases e : k = n0
    · subst e; rw [if_pos (nI_le (Nat.le_refl _) (by omega))]
    · rw [if_neg (nI_ge (show k < n0 by omega) (by omega)), if_pos rfl, ck_n (show k < 40 by omega) (by decide), ck_n (show k < 40 by omega) (by decide), nI_clamp (by omega), nI_1]
      have hno := no k (by omega)
      by_cases c1 : mA S 69 k = x1
      · rw [if_pos c1, if_neg (fun c2 => hno ⟨c1, c2⟩)]
        exact ih (k + 1) (by omega) (by omega)
      · rw [if_neg c1]
        exact ih (k + 1) (by omega) (by omega)
theorem pl_add (h : RelP z K M S b st nd nu nm) {u e n : Nat} (hu : u < nu) (he : e ≤ 30) (hn : n < 40) (p1 : cI M (z + 8) 10 = nI n) (p2 : mF S 71 = nI n) : RelP z K (wI (wI M (z + 16) u (cI M (z + 16) u ||| ((1 : Int32) <<< (nI e &&& 31)))) (z + 8) 10 (nI (n + 1))) (pF (pA (pA S 69 n (nI u)) 70 n (nI e)) 71 (nI (n + 1))) b st nd nu nm := by
  generalize hw : cI M (z + 16) u ||| ((1 : Int32) <<< (nI e &&& 31)) = w
  have hM : AgM (fun a => a ≠ z + 8 ∧ a ≠ z + 16) M (wI (wI M (z + 16) u w) (z + 8) 10 (nI (n + 1))) := ⟨fun a ha => by rw [cI_wI_ne _ _ _ ha.1, cI_wI_ne _ _ _ ha.2], fun _ _ => rfl, rfl⟩
  have hS : AgS (fun k => k ≠ 71) (fun k => k ≠ 69 ∧ k ≠ 70) S (pF (pA (pA S 69 n (nI u)) 70 n (nI e)) 71 (nI (n + 1))) := ⟨fun k hk => by rw [mF_F, if_neg hk, mF_A, mF_A], fun k hk => by rw [mA_F, mA_Ane _ _ _ hk.2, mA_Ane _ _ _ hk.1], fun _ _ => rfl⟩
  have hnu : nu ≤ 24 := h.2.2.2.2.2.2.2.2.2.2.2.2.1.2.2.2.2.2.2.1
  obtain ⟨h1, h2, h3, h4, h5, h6, h7, h8, h9, h10, h11, h12, h13, h14, h15, h16, h17, h18⟩ := h
  refine ⟨h1.sb hM, ?_, h3.sb hM hS (by omega) (by decide) (by decide), h4.sb hM hS (by omega) (by decide), h5.sb hM hS (by omega) (by decide) (by decide), h6.sb hM hS (by omega) (by decide) (by decide), h7.sb hM hS (by omega) (by decide) (by decide), h8.sb hM hS (by omega) (by decide) (by decide), h9.sb hM hS (by omega) (by decide) (by decide), ?_, h11.sb hM hS (by omega) (by decide), h12.sb hM hS (by omega) (by decide), h13.sb hM hS (fun a ha => by omega) (by decide) (by decide), h14.sb hM hS (fun a ha => by omega) (by decide), h15.sb hM hS (fun a ha => by omega) (by omega) (by decide) (by decide), h16.sb hM hS (fun a ha => by omega) (by decide), h17.sb hM hS (fun a ha => by omega) (fun k _ _ => by omega), h18⟩
  · unfold R1
    rw [cI_w, if_neg (by omega), cI_wI_ne _ _ _ (show z + 8 ≠ z + 16 by omega), hM.1 z (by omega), hM.1 (z + 35) (by omega)]
    exact h2
  · obtain ⟨n', n40, q1, q2, q3, q4⟩ := h10
    have en : n' = n := (nI_eq (by omega) (by omega)).mp (q1.symm.trans p1)
    subst en
    have A69 : ∀ k, mA (pF (pA (pA S 69 n' (nI u)) 70 n' (nI e)) 71 (nI (n' + 1))) 69 k = if k = n' then nI u else mA S 69 k := fun k => by
      rw [mA_F, mA_Ane _ _ _ (by decide), mA_A]
      simp
    have A70 : ∀ k, mA (pF (pA (pA S 69 n' (nI u)) 70 n' (nI e)) 71 (nI (n' + 1))) 70 k = if k = n' then nI e else mA S 70 k := fun k => by
      rw [mA_F, mA_A, mA_Ane _ _ _ (by decide)]
      simp
    refine ⟨n' + 1, by omega, by rw [cI_w, if_pos ⟨rfl, rfl⟩], by rw [mF_F, if_pos rfl], fun u' e' hu' he' => ?_, fun k hk => ?_⟩
    · rw [cI_wI_ne _ _ _ (show z + 16 ≠ z + 8 by omega), cI_w]
      have old := q3 u' e' hu' he'
      by_cases eu : u' = u
      · subst eu
        rw [if_pos ⟨rfl, rfl⟩, bit1 (by omega), ← hw, bit_set (by omega) (by omega), Bool.or_eq_true, ← bit1 (by omega), old]
        constructor
        · rintro (⟨k, k1, k2, k3⟩ | q)
          · refine ⟨k, by omega, ?_, ?_⟩
            · rw [A69, if_neg (by omega)]; exact k2
            · rw [A70, if_neg (by omega)]; exact k3
          · have : e' = e := by simpa using q
            refine ⟨n', by omega, ?_, ?_⟩
            · rw [A69, if_pos rfl]
            · rw [A70, if_pos rfl, this]
        · rintro ⟨k, k1, k2, k3⟩
          by_cases ek : k = n'
          · rw [A70, if_pos ek] at k3
            right
            have : e = e' := (nI_eq (by omega) (by omega)).mp k3
            simp [this]
          · rw [A69, if_neg ek] at k2
            rw [A70, if_neg ek] at k3
            exact Or.inl ⟨k, by omega, k2, k3⟩
      · rw [if_neg (fun q => eu q.2), old]
        constructor
        · rintro ⟨k, k1, k2, k3⟩
          refine ⟨k, by omega, ?_, ?_⟩
          · rw [A69, if_neg (by omega)]; exact k2
          · rw [A70, if_neg (by omega)]; exact k3
        · rintro ⟨k, k1, k2, k3⟩
          by_cases ek : k = n'
          · rw [A69, if_pos ek] at k2
            exact absurd ((nI_eq (by omega) (by omega)).mp k2).symm eu
          · rw [A69, if_neg ek] at k2
            rw [A70, if_neg ek] at k3
            exact ⟨k, by omega, k2, k3⟩
    · by_cases ek : k = n'
      · refine ⟨u, e, hu, he, ?_, ?_⟩
        · rw [A69, if_pos ek]
        · rw [A70, if_pos ek]
      · obtain ⟨u', e', a1, a2, a3, a4⟩ := q4 k (by omega)
        refine ⟨u', e', a1, a2, ?_, ?_⟩
        · rw [A69, if_neg ek]; exact a3
        · rw [A70, if_neg ek]; exact a4
theorem g_plan (h : RelP z K M S b st nd nu nm) (N : Nat) (hN : 136 < N) (v1 v2 : Int32) : ∃ M' S', fS_plan N z v1 v2 K M S = some (K, M', S') ∧ RelP z K M' S' b st nd nu nm ∧ FRQ z M M' S S' := by
  have hh := h
  have hU := c_isU h N v1
  obtain ⟨hLY, -, -, -, -, -, -, -, -, hRP, -, -, hSA, -⟩ := h
  obtain ⟨hb, hn, s3, -, s5, hnd, hnu, -, -, -, -, hsu, -⟩ := hSA
  obtain ⟨n, n40, p1, p2, p3, p4⟩ := hRP
  have hm := m_isU (S := pF S 0 0) hb hn hsu N v1
  have same : fC_X8_plan N K z v1 v2 M = some (0, M) → fM_plan N v1 v2 S = some (0, pF S 0 0) → ∃ M' S', fS_plan N z v1 v2 K M S = some (K, M', S') ∧ RelP z K M' S' b st nd nu nm ∧ FRQ z M M' S S' := fun c m => ⟨M, pF S 0 0, by unfold fS_plan; rw [gd_k hLY.k9, c, m]; exact fin rfl, hh.thr 0, FRQ.t0 z M S 0⟩
  have p2' : mF (pF S 0 0) 71 = nI n := p2
  have noU : (∀ i, i < n → ¬ (mA S 69 i = v1 ∧ mA S 70 i = v2)) → fM_plan N v1 v2 S = bM_plan_57 N v1 v2 0 (pF S 0 0) := fun no => pl_n (S := pF S 0 0) N (bM_plan_57 N) v1 v2 p2' n40 no N 0 (by omega) (by omega)
  by_cases hu : isUb nu v1 = 0
  · refine same ?_ ?_
    · unfold fC_X8_plan bC_X8_plan_18
      rw [gd_k hLY.k9, hU, bs]
      dsimp only
      rw [if_pos hu]
      rfl
    · rw [noU (fun i hi q => by
        obtain ⟨u, e, a1, a2, a3, a4⟩ := p4 i hi
        rw [← q.1, a3, isUb_n hnu a1] at hu
        exact absurd hu (by decide))]
      unfold bM_plan_57 bM_plan_90
      rw [if_pos rfl, hm, bs]
      dsimp only
      rw [if_pos hu]
      rfl
  · obtain ⟨u, hu2, rfl⟩ := isUb_1 hnu hu
    by_cases c0 : v2 < 0
    · refine same ?_ ?_
      · unfold fC_X8_plan bC_X8_plan_18
        rw [gd_k hLY.k9, hU, bs]
        dsimp only
        rw [if_neg hu, if_pos c0]
        rfl
      · rw [noU (fun i hi q => by
          obtain ⟨u, e, a1, a2, a3, a4⟩ := p4 i hi
          rw [← q.2, a4] at c0
          exact nI_pos (by omega) c0)]
        unfold bM_plan_57 bM_plan_90
        rw [if_pos rfl, hm, bs]
        dsimp only
        rw [if_neg hu, if_pos c0]
        rfl
    · obtain ⟨e, he, rfl⟩ := nI_of c0
      by_cases c1 : 30 < e
      · have c1' : (30 : Int32) < nI e := nI_lt (a := 30) c1 he
        refine same ?_ ?_
        · unfold fC_X8_plan bC_X8_plan_18
          rw [gd_k hLY.k9, hU, bs]
          dsimp only
          rw [if_neg hu, if_neg c0, if_neg (show ¬ nI e ≤ 30 from nI_ge (a := 30) c1 he)]
          rfl
        · rw [noU (fun i hi q => by
            obtain ⟨u, e', a1, a2, a3, a4⟩ := p4 i hi
            have := (nI_eq (by omega) he).mp (a4.symm.trans q.2)
            omega)]
          unfold bM_plan_57 bM_plan_90
          rw [if_pos rfl, hm, bs]
          dsimp only
          rw [if_neg hu, if_neg c0, if_pos c1']
          rfl
      · have he30 : e ≤ 30 := by omega
        have hip : fC_X4_isPlanned N K (z + 8) (nI u) (nI e) M = some (if bt (cI M (z + 16) u) e = true then 1 else 0, M) := by
          unfold fC_X4_isPlanned bC_X4_isPlanned_19
          rw [gd_k (hLY.k 8 5 0 rfl), nn_s (hLY.r 8 7 16 (by decide)), gd_k (hLY.k 16 22 24 rfl), hLY.l 16 22 24 rfl (by decide), ck_n (show u < 24 by omega) (by decide), nI_clamp (by omega)]
          by_cases hb1 : bt (cI M (z + 16) u) e = true
          · rw [if_pos ((bit1 (by omega)).mpr hb1), if_pos hb1]; rfl
          · rw [if_neg (fun q => hb1 ((bit1 (by omega)).mp q)), if_neg hb1]; rfl
        have hpl := p3 u e (by omega) he30
        rw [bit1 (by omega)] at hpl
        have hcls : fC_X8_plan N K z (nI u) (nI e) M = (if bt (cI M (z + 16) u) e = true then some (1, M) else if n < 40 then some (1, wI (wI M (z + 16) u (cI M (z + 16) u ||| ((1 : Int32) <<< (nI e &&& 31)))) (z + 8) 10 (nI (n + 1))) else some (0, M)) := by
          unfold fC_X8_plan
          rw [gd_k hLY.k9, hU, bs]
          dsimp only
          rw [if_neg hu, if_neg c0, if_pos (show nI e ≤ 30 from nI_le (b := 30) he30 (by decide)), nn_s (hLY.r0 2 8 (by decide)), gd_k (hLY.k 8 5 0 rfl), hip, bs]
          dsimp only
          by_cases hb1 : bt (cI M (z + 16) u) e = true
          · rw [if_pos hb1, if_pos hb1, if_neg (by decide)]; rfl
          · rw [if_neg hb1, if_neg hb1, if_pos rfl, nn_s (hLY.r0 2 8 (by decide)), gd_k (hLY.k 8 5 0 rfl), p1]
            by_cases h40 : n < 40
            · rw [if_pos (show nI n < 40 from nI_lt (b := 40) h40 (by decide)), if_pos h40]
              unfold fC_X4_addPlan
              rw [nn_s (hLY.r0 2 8 (by decide)), gd_k (hLY.k 8 5 0 rfl), gd_k (hLY.k 8 5 0 rfl), nn_s (hLY.r 8 7 16 (by decide)), gd_k (hLY.k 16 22 24 rfl), hLY.l 16 22 24 rfl (by decide), ck_n (show u < 24 by omega) (by decide), ck_n (show u < 24 by omega) (by decide), nI_clamp (by omega), cI_wI_ne _ _ _ (show z + 8 ≠ z + 16 by omega), p1, nI_1]
              rfl
            · rw [if_neg (show ¬ nI n < 40 from nI_nlt (b := 40) (by omega) (by omega)), if_neg h40]; rfl
        by_cases hb1 : bt (cI M (z + 16) u) e = true
        · rw [if_pos hb1] at hcls
          obtain ⟨k, k1, k2, k3⟩ := hpl.mp hb1
          have hmod : fM_plan N (nI u) (nI e) S = some (1, pF S 0 0) := by
            have : fM_plan N (nI u) (nI e) S = bM_plan_57 N (nI u) (nI e) 1 (pF S 0 0) := pl_e (S := pF S 0 0) N (bM_plan_57 N) (nI u) (nI e) p2' n40 k1 k2 k3 N 0 (by omega) (by omega)
            rw [this]
            unfold bM_plan_57
            rw [if_neg (show ¬ (1 : Int32) = 0 by decide)]
            rfl
          exact ⟨M, pF S 0 0, by unfold fS_plan; rw [gd_k hLY.k9, hcls, hmod]; exact fin rfl, hh.thr 0, FRQ.t0 z M S 0⟩
        · rw [if_neg hb1] at hcls
          have hno := noU (fun i hi q => hb1 (hpl.mpr ⟨i, hi, q.1, q.2⟩))
          by_cases h40 : n < 40
          · rw [if_pos h40] at hcls
            have hmod : fM_plan N (nI u) (nI e) S = some (1, pF (pA (pA (pF S 0 0) 69 n (nI u)) 70 n (nI e)) 71 (nI (n + 1))) := by
              rw [hno]
              unfold bM_plan_57
              rw [if_pos rfl, hm, bs]
              dsimp only
              rw [if_neg hu, if_neg c0, if_neg (show ¬ (30 : Int32) < nI e from nI_nlt (a := 30) he30 (by decide)), mF_A, mF_A, p2', if_neg (show ¬ nI n = 40 from fun q => by have := (nI_eq (b := 40) (by omega) (by decide)).mp q; omega), ck_n h40 (by decide), ck_n h40 (by decide), nI_clamp (by omega), mF_A, p2', nI_1]
              rfl
            refine ⟨_, _, by unfold fS_plan; rw [gd_k hLY.k9, hcls, hmod]; exact fin rfl, pl_add (hh.thr 0) hu2 he30 h40 p1 p2', (FRQ.t0 z M S 0).tr ⟨⟨fun a ha => by rw [cI_wI_ne _ _ _ (by omega), cI_wI_ne _ _ _ (by omega)], fun _ _ => rfl, rfl⟩, fun k hk => by rw [mF_F, if_neg (by omega), mF_A, mF_A], fun k hk => by rw [mA_F, mA_Ane _ _ _ (by omega), mA_Ane _ _ _ (by omega)], fun _ _ => rfl⟩⟩
          · rw [if_neg h40] at hcls
            refine same hcls ?_
            rw [hno]
            unfold bM_plan_57 bM_plan_90
            have hn40 : n = 40 := by omega
            rw [if_pos rfl, hm, bs]
            dsimp only
            rw [if_neg hu, if_neg c0, if_neg (show ¬ (30 : Int32) < nI e from nI_nlt (a := 30) he30 (by decide)), p2', if_pos (show nI n = 40 by rw [hn40]; rfl)]
            rfl
end PLAN
