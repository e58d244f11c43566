/-! runs: needs and touches -/
section ACTS
variable {z b st nd nu nh no : Nat} {K : Ka} {M0 M M' : Cm} {S0 S S' : Ms} {N : Nat}
/-- what noting a need may change -/
def NFR (z : Nat) (M M1 : Cm) (S S1 : Ms) : Prop := (∀ a, a ≠ z + 14 → a ≠ z + 15 → cI M1 a = cI M a) ∧ cL M1 = cL M ∧ cR M1 = cR M ∧ (∀ k, mF S1 k = mF S k) ∧ (∀ k, k ≠ 59 → k ≠ 60 → mA S1 k = mA S k) ∧ (∀ v y, NH S v y → NH S1 v y)
theorem NFR.rf (z : Nat) (M : Cm) (S : Ms) : NFR z M M S S := ⟨fun _ _ _ => rfl, rfl, rfl, fun _ => rfl, fun _ _ _ => rfl, fun _ _ h => h⟩
/-- no need to note it -/
def NDN (nu : Nat) (S : Ms) (clo who : Int32) (x : Nat) : Prop := clo = 1 ∨ who = -1 ∨ who = nI x ∨ ∃ w, w < nu ∧ who = nI w ∧ NH S w x
theorem NDN.mono {clo who : Int32} {x : Nat} (h : NDN nu S clo who x) (q : ∀ v y, NH S v y → NH S' v y) : NDN nu S' clo who x := by
  rcases h with h | h | h | ⟨w, h1, h2, h3⟩
  · exact Or.inl h
  · exact Or.inr (Or.inl h)
  · exact Or.inr (Or.inr (Or.inl h))
  · exact Or.inr (Or.inr (Or.inr ⟨w, h1, h2, q _ _ h3⟩))
theorem cn_lp (hL : LY z K M) (N : Nat) {w x n : Nat} (hw : w < 24) (hn : n ≤ 23) : ∀ (f i : Nat), i ≤ n → n < f + i →
    ((∃ i', i ≤ i' ∧ i' < n ∧ cI M (z + 14) (24 * w + i') = nI x) → lC_X4_noteNeed_16 N K (bC_X4_noteNeed_36 N K) (bC_X4_noteNeed_43 N K) f (z + 8) (nI w) (nI x) (nI w * 24) (nI n) (nI i) M = some M) ∧
    ((∀ i', i ≤ i' → i' < n → cI M (z + 14) (24 * w + i') ≠ nI x) → lC_X4_noteNeed_16 N K (bC_X4_noteNeed_36 N K) (bC_X4_noteNeed_43 N K) f (z + 8) (nI w) (nI x) (nI w * 24) (nI n) (nI i) M = bC_X4_noteNeed_43 N K (z + 8) (nI w) (nI x) (nI w * 24) (nI n) M) := by
  intro f
  induction f with
  | zero => intro i h1 h2; omega
  | succ f ih =>
    intro i h1 h2
    rw [lC_X4_noteNeed_16]
    by_cases e : i < n
    · rw [if_neg (nI_ge e (by omega)), gd_k (hL.k 8 5 0 rfl), nn_s (hL.r 8 5 14 (by decide)), gd_k (hL.k 14 22 576 rfl), hL.l 14 22 576 rfl (by decide), ix24r, ck_n (show 24 * w + i < 576 by omega) (by decide), nI_clamp (by omega), nI_1]
      obtain ⟨ih1, ih2⟩ := ih (i + 1) (by omega) (by omega)
      by_cases q : cI M (z + 14) (24 * w + i) = nI x
      · rw [if_pos q]
        exact ⟨fun _ => rfl, fun w => absurd q (w i (Nat.le_refl _) e)⟩
      · rw [if_neg q]
        refine ⟨fun ⟨i', a1, a2, a3⟩ => ih1 ⟨i', ?_, a2, a3⟩, fun a => ih2 (fun i' a1 a2 => a i' (by omega) a2)⟩
        by_cases ei : i' = i
        · subst ei; exact absurd a3 q
        · omega
    · rw [if_pos (nI_le (by omega) (by omega))]
      exact ⟨fun ⟨i', a1, a2, a3⟩ => by omega, fun _ => rfl⟩
theorem mn_lp (N : Nat) {w x n : Nat} (hw : w < 24) (hn : n ≤ 23) (h60 : mA S 60 w = nI n) : ∀ (f i : Nat), i ≤ n → n < f + i →
    ((∃ i', i ≤ i' ∧ i' < n ∧ mA S 59 (24 * w + i') = nI x) → lM_noteNeed_23 N (bM_noteNeed_68 N) (f + 1) (nI x) (nI w) 0 (nI i) S = some S) ∧
    ((∀ i', i ≤ i' → i' < n → mA S 59 (24 * w + i') ≠ nI x) → lM_noteNeed_23 N (bM_noteNeed_68 N) (f + 1) (nI x) (nI w) 0 (nI i) S = bM_noteNeed_68 N (nI x) (nI w) 0 S) := by
  intro f
  induction f with
  | zero => intro i h1 h2; omega
  | succ f ih =>
    intro i h1 h2
    rw [lM_noteNeed_23, if_pos rfl, ck_n hw (by decide), nI_clamp (show w < 2 ^ 31 by omega), h60]
    by_cases e : i < n
    · rw [if_neg (nI_ge e (by omega)), ix24, ck_n (show 24 * w + i < 576 by omega) (by decide), nI_clamp (by omega)]
      unfold bM_noteNeed_60
      rw [nI_1]
      obtain ⟨ih1, ih2⟩ := ih (i + 1) (by omega) (by omega)
      by_cases q : mA S 59 (24 * w + i) = nI x
      · rw [if_pos q]
        refine ⟨fun _ => ?_, fun w => absurd q (w i (Nat.le_refl _) e)⟩
        rw [lM_noteNeed_23, if_neg (by decide)]
        unfold bM_noteNeed_68 bM_noteNeed_100
        rw [if_neg (by decide)]
      · rw [if_neg q]
        refine ⟨fun ⟨i', a1, a2, a3⟩ => ih1 ⟨i', ?_, a2, a3⟩, fun a => ih2 (fun i' a1 a2 => a i' (by omega) a2)⟩
        by_cases ei : i' = i
        · subst ei; exact absurd a3 q
        · omega
    · rw [if_pos (nI_le (by omega) (by omega))]
      exact ⟨fun ⟨i', a1, a2, a3⟩ => by omega, fun _ => rfl⟩
theorem nd_act (hL : LY z K M) (hN : 30 < N) (hn : nu ≤ 24) {w x : Nat} (hw : w < nu) (hx : x < nu) (hwx : x ≠ w) (h : DD z b nd nu M0 S0 nh no M S) :
    ∃ M1 S1, fC_X4_noteNeed N K (z + 8) (nI w) (nI x) M = some M1 ∧ bM_noteNeed_18 N (nI x) (nI w) 0 S = some S1 ∧ DD z b nd nu M0 S0 nh no M1 S1 ∧ NFR z M M1 S S1 ∧ NH S1 w x ∧ (NH S w x → M1 = M) := by
  obtain ⟨-, -, -, -, -, -, ⟨n, b71, b72, b73, b74⟩, -⟩ := h.2.2.2.2.2.2.1 w (by omega)
  obtain ⟨N', rfl⟩ : ∃ N', N = N' + 1 := ⟨N - 1, by omega⟩
  obtain ⟨c1, c2⟩ := cn_lp hL (N' + 1) (w := w) (x := x) (n := n) (by omega) b71 (N' + 1) 0 (by omega) (by omega)
  obtain ⟨m1, m2⟩ := mn_lp (S := S) (N' + 1) (w := w) (x := x) (n := n) (by omega) b71 b73 N' 0 (by omega) (by omega)
  unfold fC_X4_noteNeed bM_noteNeed_18
  rw [gd_k (hL.k 8 5 0 rfl), nn_s (hL.r 8 6 15 (by decide)), gd_k (hL.k 15 22 24 rfl), hL.l 15 22 24 rfl (by decide), ck_n (show w < 24 by omega) (by decide), nI_clamp (show w < 2 ^ 31 by omega), b72]
  by_cases q : ∃ i, i < n ∧ mA S 59 (24 * w + i) = nI x
  · obtain ⟨i, q1, q2⟩ := q
    refine ⟨M, S, c1 ⟨i, by omega, q1, (b74 i q1).trans q2⟩, m1 ⟨i, by omega, q1, q2⟩, h, NFR.rf z M S, ⟨n, i, b73, b71, q1, q2⟩, fun _ => rfl⟩
  · have new : ∀ i, i < n → mA S 59 (24 * w + i) ≠ nI x := fun i hi e => q ⟨i, hi, e⟩
    obtain ⟨d1, d2⟩ := h.need hw hx hn hwx b73 b71 new
    have c3 := c2 (fun i _ hi => by rw [b74 i hi]; exact new i hi)
    have m3 := m2 (fun i _ hi => new i hi)
    refine ⟨_, _, c3.trans ?_, m3.trans ?_, d2, ⟨fun a h1 h2 => by rw [cI_wI_ne _ _ _ h2, cI_wI_ne _ _ _ h1], rfl, rfl, fun _ => rfl, fun k h1 h2 => by rw [mA_Ane _ _ _ h2, mA_Ane _ _ _ h1], fun v y hy => ?_⟩, ?_, fun ⟨n', i, e1, e2, e3, e4⟩ => ?_⟩
    · unfold bC_X4_noteNeed_43 bC_X4_noteNeed_70
      rw [if_neg (show ¬ (24 : Int32) ≤ nI n from nI_ge (b := 24) (by omega) (by decide)), gd_k (hL.k 8 5 0 rfl), nn_s (hL.r 8 5 14 (by decide)), gd_k (hL.k 14 22 576 rfl), hL.l 14 22 576 rfl (by decide), ix24r, ck_n (show 24 * w + n < 576 by omega) (by decide), nI_clamp (show 24 * w + n < 2 ^ 31 by omega), nn_s (show cR (wI M (z + 14) (24 * w + n) (nI x)) (z + 8) 6 = some (z + 15) from hL.r 8 6 15 (by decide)), gd_k (hL.k 15 22 24 rfl), hL.l 15 22 24 rfl (by decide), ck_n (show w < 24 by omega) (by decide), ck_n (show w < 24 by omega) (by decide), nI_clamp (show w < 2 ^ 31 by omega), cI_wI_ne _ _ _ (by omega), b72, nI_1]
    · unfold bM_noteNeed_68 bM_noteNeed_100
      rw [if_pos rfl, ck_n (show w < 24 by omega) (by decide), nI_clamp (show w < 2 ^ 31 by omega), b73, ix24, ck_n (show 24 * w + n < 576 by omega) (by decide), nI_clamp (show 24 * w + n < 2 ^ 31 by omega), ck_n (show w < 24 by omega) (by decide), ck_n (show w < 24 by omega) (by decide), mA_Ane _ _ _ (by decide), b73, nI_1]
    · obtain ⟨n', i, e1, e2, e3, e4⟩ := hy
      by_cases ev : v = w
      · subst ev
        have : n' = n := (nI_eq (by omega) (by omega)).mp (e1.symm.trans b73)
        refine ⟨n + 1, i, by rw [mA_A, if_pos ⟨rfl, rfl⟩], by omega, by omega, ?_⟩
        rw [mA_Ane _ _ _ (by decide), mA_A, if_neg (by omega)]; exact e4
      · refine ⟨n', i, by rw [mA_A, if_neg (fun q => ev q.2), mA_Ane _ _ _ (by decide)]; exact e1, e2, e3, ?_⟩
        rw [mA_Ane _ _ _ (by decide), mA_A, if_neg (by omega)]; exact e4
    · refine ⟨n + 1, n, by rw [mA_A, if_pos ⟨rfl, rfl⟩], by omega, by omega, ?_⟩
      rw [mA_Ane _ _ _ (by decide), mA_A, if_pos ⟨rfl, rfl⟩]
    · have : n' = n := (nI_eq (by omega) (by omega)).mp (e1.symm.trans b73)
      exact absurd e4 (new i (by omega))
theorem neg1_lt : (-1 : Int32) < 0 := by decide
theorem nI_nl {n : Nat} (h : n < 2 ^ 31) : ¬ nI n < 0 := fun x => absurd x (Int32.not_lt.mpr (nI_ge0 h))
theorem nI_nm {n : Nat} (h : n < 2 ^ 31) : nI n ≠ -1 := fun x => nI_nl h (by rw [x]; decide)
theorem nn_act (hL : LY z K M) (hN : 30 < N) (hn : nu ≤ 24) {h0 x : Nat} {clo who : Int32} (hh : h0 < 25) (h9 : cI M (z + 35) 9 = clo) (hc : clo = 0 ∨ clo = 1) (h5 : cR M (z + 35) 5 = some (z + 38 + 2 * h0)) (h1 : cI M (z + 38 + 2 * h0) 1 = who) (hw : who = -1 ∨ ∃ w, w < nu ∧ who = nI w) (hx : x < nu) (h : DD z b nd nu M0 S0 nh no M S) :
    ∃ M1 S1, fC_X2_noteNeed N K (z + 35) (nI x) M = some M1 ∧ fM_noteNeed N (nI x) who clo S = some S1 ∧ DD z b nd nu M0 S0 nh no M1 S1 ∧ NFR z M M1 S S1 ∧ NDN nu S1 clo who x ∧ (NDN nu S clo who x → M1 = M) := by
  obtain ⟨f1, f2, -⟩ := hL.2.2.1 h0 hh
  have m1 : ∀ y, bM_noteNeed_13 N (nI x) y S = some S := fun y => by
    unfold bM_noteNeed_13 bM_noteNeed_18
    obtain ⟨N', rfl⟩ : ∃ N', N = N' + 1 := ⟨N - 1, by omega⟩
    rw [lM_noteNeed_23, if_neg (by decide)]
    unfold bM_noteNeed_68 bM_noteNeed_100
    rw [if_neg (by decide)]
  unfold fC_X2_noteNeed bC_X2_noteNeed_43 fM_noteNeed
  rw [gd_k (hL.k 35 3 0 rfl), h9]
  by_cases c0 : clo = 0
  · rw [if_pos c0, nn_s h5, gd_k f2, h1]
    rcases hw with hw | ⟨w, hw1, hw2⟩
    · rw [if_pos (by rw [hw]; decide), if_pos (by rw [hw]; decide), m1]
      exact ⟨M, S, rfl, rfl, h, NFR.rf z M S, Or.inr (Or.inl hw), fun _ => rfl⟩
    · rw [hw2, if_neg (nI_nl (by omega)), nn_s h5, gd_k f2, h1, hw2, if_neg (nI_nl (by omega))]
      by_cases e : w = x
      · rw [if_pos (by rw [e]), if_pos (by rw [e]), m1]
        exact ⟨M, S, rfl, rfl, h, NFR.rf z M S, Or.inr (Or.inr (Or.inl (by rw [e]))), fun _ => rfl⟩
      · have ne : ¬ nI w = nI x := fun q => e ((nI_eq (by omega) (by omega)).mp q)
        rw [if_neg ne, if_neg ne, nn_s h5, gd_k f2, nn_s (hL.r 35 0 8 (by decide)), gd_k (hL.k 8 5 0 rfl), h1, hw2, if_pos c0]
        obtain ⟨M1, S1, a1, a2, a3, a4, a5, a6⟩ := nd_act hL hN hn hw1 hx (Ne.symm e) h
        rw [a1, bs, a2]
        refine ⟨M1, S1, rfl, rfl, a3, a4, Or.inr (Or.inr (Or.inr ⟨w, hw1, rfl, a5⟩)), fun q => a6 ?_⟩
        rcases q with q | q | q | ⟨w', q1, q2, q3⟩
        · rw [q] at c0; exact absurd c0 (by decide)
        · exact absurd q (nI_nm (by omega))
        · exact absurd q ne
        · have : w = w' := (nI_eq (by omega) (by omega)).mp q2
          rw [this]; exact q3
  · have c1 : clo = 1 := hc.resolve_left c0
    rw [if_neg c0]
    refine ⟨M, S, rfl, ?_, h, NFR.rf z M S, Or.inl c1, fun _ => rfl⟩
    split
    · exact m1 _
    · split
      · exact m1 _
      · exact m1 _
/-- TOUCHED, and there -/
theorem c_is1 (hL : LY z K M) (N : Nat) {u : Nat} (hu : u < 24) (h : cI M (z + 35) 9 = 1 ∨ (cI M (z + 35) 9 = 0 ∧ (cI M (z + 9) u = 2 ∨ cI M (z + 9) u = 1))) : fC_X2_isThere N K (z + 35) (nI u) M = some (1, M) := by
  unfold fC_X2_isThere bC_X2_isThere_27
  rw [gd_k (hL.k 35 3 0 rfl), nn_s (hL.r 35 0 8 (by decide)), gd_k (hL.k 8 5 0 rfl), nn_s (hL.r 8 0 9 (by decide)), gd_k (hL.k 9 22 24 rfl), hL.l 9 22 24 rfl (by decide), ck_n hu (by decide), nI_clamp (by omega)]
  rcases h with h | ⟨h, h2⟩
  · rw [h, if_neg (by decide)]; rfl
  · rw [if_pos h]
    rcases h2 with h2 | h2
    · rw [if_pos h2]; rfl
    · rw [if_neg (by rw [h2]; decide), if_pos h2]; rfl
theorem c_is3 (hL : LY z K M) (N : Nat) {u : Nat} (hu : u < 24) (h : cI M (z + 35) 9 = 0) (h3 : cI M (z + 9) u = 3) : fC_X2_isThere N K (z + 35) (nI u) M = (RSE N K z 0 21 0 M).bind fun o => some (0, o) := by
  unfold fC_X2_isThere bC_X2_isThere_82
  rw [gd_k (hL.k 35 3 0 rfl), nn_s (hL.r 35 0 8 (by decide)), gd_k (hL.k 8 5 0 rfl), nn_s (hL.r 8 0 9 (by decide)), gd_k (hL.k 9 22 24 rfl), hL.l 9 22 24 rfl (by decide), ck_n hu (by decide), nI_clamp (by omega), if_pos h, h3, if_neg (by decide), if_neg (by decide), if_neg (by decide), c_raise]
  rfl
theorem c_is0 (hL : LY z K M) (N : Nat) {u h0 sz q tu : Nat} (hu : u < 24) (h9 : cI M (z + 35) 9 = 0) (h0s : cI M (z + 9) u = 0) (hh : h0 + 1 < 25) (h5 : cR M (z + 35) 5 = some (z + 38 + 2 * h0)) (h6 : cI M (z + 35) 6 = nI (h0 + 1)) (h7 : cI M (z + 35) 7 = nI sz) (h2 : cI M (z + 38 + 2 * h0) 2 = nI (q + 1)) (h4 : cR M (z + 35) 4 = some st) (hs6 : kd K st = 6) (hz : z + 89 ≤ st) (s5 : cR M st 5 = some (st + 6)) (k6 : kd K (st + 6) = 26) (l6 : u < le K (st + 6)) (l6' : le K (st + 6) ≤ 24) (ht : cR M (st + 6) u = some tu) (kt : kd K tu = 8) (htz : z + 89 ≤ tu) :
    fC_X2_isThere N K (z + 35) (nI u) M = some (0, enC z (h0 + 1) sz (nI u) (cI M tu 12) (wI (wI M (z + 38 + 2 * h0) 2 (nI q)) (z + 9) u 1)) := by
  unfold fC_X2_isThere bC_X2_isThere_82
  have hL' : LY z K (wI (wI M (z + 38 + 2 * h0) 2 (nI q)) (z + 9) u 1) := hL
  rw [gd_k (hL.k 35 3 0 rfl), nn_s (hL.r 35 0 8 (by decide)), gd_k (hL.k 8 5 0 rfl), nn_s (hL.r 8 0 9 (by decide)), gd_k (hL.k 9 22 24 rfl), hL.l 9 22 24 rfl (by decide), ck_n hu (by decide), nI_clamp (by omega), if_pos h9, h0s, if_neg (by decide), if_neg (by decide), if_pos rfl, nn_s h5, gd_k (hL.2.2.1 h0 (by omega)).2.1, h2, nI_p1]
  rw [nn_s (show cR (wI M (z + 38 + 2 * h0) 2 (nI q)) (z + 35) 0 = some (z + 8) from hL.r 35 0 8 (by decide)), gd_k (hL.k 8 5 0 rfl), nn_s (show cR (wI M (z + 38 + 2 * h0) 2 (nI q)) (z + 8) 0 = some (z + 9) from hL.r 8 0 9 (by decide)), gd_k (hL.k 9 22 24 rfl), hL.l 9 22 24 rfl (by decide), ck_n hu (by decide)]
  rw [nn_s (show cR (wI (wI M (z + 38 + 2 * h0) 2 (nI q)) (z + 9) u 1) (z + 35) 4 = some st from h4), gd_k hs6, nn_s (show cR (wI (wI M (z + 38 + 2 * h0) 2 (nI q)) (z + 9) u 1) st 5 = some (st + 6) from s5), gd_k k6, ck_n l6 (by omega), nn_s (show cR (wI (wI M (z + 38 + 2 * h0) 2 (nI q)) (z + 9) u 1) (st + 6) u = some tu from ht), gd_k kt]
  rw [c_enter hL' N (h := h0 + 1) (sz := sz) hh (by rw [cI_wI_ne _ _ _ (by omega), cI_wI_ne _ _ _ (by omega)]; exact h6) (by rw [cI_wI_ne _ _ _ (by omega), cI_wI_ne _ _ _ (by omega)]; exact h7), bs]
  rw [cI_wI_ne _ _ _ (show tu ≠ z + 9 by omega), cI_wI_ne _ _ _ (show tu ≠ z + 38 + 2 * h0 by omega)]
  rfl
/-- the reference's -/
theorem m_t0 (N : Nat) (GT : Nat → Int32 → Int32 → Int32 → Int32 → Int32 → Ms → Option (Int32 × Ms)) {u : Nat} (hu : u < 24) (h : mA S 54 u = 2 ∨ mA S 54 u = 1) : fM_touch N GT (nI u) S = some (0, S) := by
  unfold fM_touch bM_touch_20
  rw [ck_n hu (by decide), nI_clamp (by omega)]
  rcases h with h | h
  · rw [if_pos h]
  · rw [if_neg (by rw [h]; decide), ck_n hu (by decide), if_pos h]
theorem m_t3 (N : Nat) (GT : Nat → Int32 → Int32 → Int32 → Int32 → Int32 → Ms → Option (Int32 × Ms)) {u : Nat} (hu : u < 24) (h : mA S 54 u = 3) : fM_touch N GT (nI u) S = some (1, pF (pF S 90 21) 91 0) := by
  unfold fM_touch bM_touch_20 bM_touch_47 fM_fails
  rw [ck_n hu (by decide), nI_clamp (by omega), if_neg (by rw [h]; decide), ck_n hu (by decide), if_neg (by rw [h]; decide), ck_n hu (by decide), if_pos h, bs]
theorem m_t1 (N : Nat) (GT : Nat → Int32 → Int32 → Int32 → Int32 → Int32 → Ms → Option (Int32 × Ms)) {u : Nat} (hu : u < 24) (h : mA S 54 u = 0) : fM_touch N GT (nI u) S = GT 1 (nI u) 0 0 0 0 S := by
  unfold fM_touch bM_touch_20 bM_touch_47
  rw [ck_n hu (by decide), nI_clamp (by omega), if_neg (by rw [h]; decide), ck_n hu (by decide), if_neg (by rw [h]; decide), ck_n hu (by decide), if_neg (by rw [h]; decide)]
  cases GT 1 (nI u) 0 0 0 0 S <;> rfl
end ACTS
