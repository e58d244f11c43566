/-! runs: orders, steps, ends -/
theorem nI_a (n k : Nat) : nI n + nI k = nI (n + k) := nI_add n k
theorem gt_D (U : List Nat) (i : Nat) (h : i < U.length) : U.getD i 0 = U[i] := by
  rw [List.getD_eq_getElem?_getD, List.getElem?_eq_getElem h]
  rfl
section ACTS2
variable {z b st nd nu lim nh no h fl t0 c B0 N : Nat} {clo who : Int32} {U : List Nat} {K : Ka} {M0 M M' M'' : Cm} {S0 S S' S'' : Ms} {mk : List Mk} {rc cc : Nat} {g : Nat → Nat × Nat × Nat} {pi : Nat → Nat} {J : Nat → Jt} {cl : Nat → List Nat}
theorem c_addOrder (hL : LY z K M) (N : Nat) (h6 : cI M (z + 30) 6 = nI no) (hn : no ≤ 1000000000) (x d v w : Int32) (hw : w = 0 ∨ w = 1) : fC_X0_addOrder N K (z + 30) x d v w M = some (odC z no x d v w M) := by
  have hq : cR M (z + 30) 2 = some (z + 33) := hL.r 30 2 33 (by decide)
  unfold fC_X0_addOrder bC_X0_addOrder_72 bC_X0_addOrder_73 odC
  rw [gd_k (hL.k 30 1 0 rfl), h6]
  by_cases q : no < 200
  · have e4 : nI no * (4 : Int32) = nI (no * 4) := nI_mul no 4
    have e5 : nI (no * 4) + (1 : Int32) = nI (no * 4 + 1) := nI_add _ 1
    have e6 : nI (no * 4) + (2 : Int32) = nI (no * 4 + 2) := nI_add _ 2
    have e7 : nI (no * 4) + (3 : Int32) = nI (no * 4 + 3) := nI_add _ 3
    have k33 := hL.k 33 22 800 rfl
    have l33 := hL.l 33 22 800 rfl (by decide)
    rw [if_neg (show ¬ (200 : Int32) ≤ nI no from nI_ge (b := 200) q (by decide)), if_pos q, nn_s hq, gd_k k33, l33, e4, ck_n (show no * 4 < 800 by omega) (by decide), nI_clamp (show no * 4 < 2 ^ 31 by omega)]
    rw [cR_I, nn_s hq, gd_k k33, l33, cI_wI_ne _ _ _ (show z + 30 ≠ z + 33 by omega), h6, e4, e5, ck_n (show no * 4 + 1 < 800 by omega) (by decide), nI_clamp (show no * 4 + 1 < 2 ^ 31 by omega)]
    rw [cR_I, cR_I, nn_s hq, gd_k k33, l33, cI_wI_ne _ _ _ (show z + 30 ≠ z + 33 by omega), cI_wI_ne _ _ _ (show z + 30 ≠ z + 33 by omega), h6, e4, e6, ck_n (show no * 4 + 2 < 800 by omega) (by decide), nI_clamp (show no * 4 + 2 < 2 ^ 31 by omega)]
    rw [cR_I, cR_I, cR_I, nn_s hq, nn_s hq, cI_wI_ne _ _ _ (show z + 30 ≠ z + 33 by omega), cI_wI_ne _ _ _ (show z + 30 ≠ z + 33 by omega), cI_wI_ne _ _ _ (show z + 30 ≠ z + 33 by omega), h6, e4, e7, nI_clamp (show no * 4 + 3 < 2 ^ 31 by omega), gd_k k33, gd_k k33, l33, ck_n (show no * 4 + 3 < 800 by omega) (by decide), ck_n (show no * 4 + 3 < 800 by omega) (by decide), gd_k (hL.k 30 1 0 rfl), gd_k (hL.k 30 1 0 rfl)]
    have e30 : ∀ y, cI (wI (wI (wI (wI M (z + 33) (no * 4) x) (z + 33) (no * 4 + 1) d) (z + 33) (no * 4 + 2) v) (z + 33) (no * 4 + 3) y) (z + 30) 6 = nI no := fun y => by
      rw [cI_wI_ne _ _ _ (show z + 30 ≠ z + 33 by omega), cI_wI_ne _ _ _ (show z + 30 ≠ z + 33 by omega), cI_wI_ne _ _ _ (show z + 30 ≠ z + 33 by omega), cI_wI_ne _ _ _ (show z + 30 ≠ z + 33 by omega), h6]
    rw [e30, e30, nI_1]
    rcases hw with rfl | rfl
    · rw [if_pos rfl]
    · rw [if_neg (by decide)]
  · rw [if_pos (show (200 : Int32) ≤ nI no from nI_le (a := 200) (by omega) (by omega)), if_neg q, gd_k (hL.k 30 1 0 rfl), nI_1]
theorem c_addHalf (hL : LY z K M) (N : Nat) (h6 : cI M (z + 30) 5 = nI nh) (hn : nh ≤ 1000000000) (x d v : Int32) : fC_X0_addHalf N K (z + 30) x d v M = some (hfC z nh x d v M) := by
  have hq : cR M (z + 30) 1 = some (z + 32) := hL.r 30 1 32 (by decide)
  unfold fC_X0_addHalf bC_X0_addHalf_50 hfC
  rw [gd_k (hL.k 30 1 0 rfl), h6]
  by_cases q : nh < 200
  · have e4 : nI nh * (3 : Int32) = nI (nh * 3) := nI_mul nh 3
    have e5 : nI (nh * 3) + (1 : Int32) = nI (nh * 3 + 1) := nI_add _ 1
    have e6 : nI (nh * 3) + (2 : Int32) = nI (nh * 3 + 2) := nI_add _ 2
    have k32 := hL.k 32 22 600 rfl
    have l32 := hL.l 32 22 600 rfl (by decide)
    rw [if_neg (show ¬ (200 : Int32) ≤ nI nh from nI_ge (b := 200) q (by decide)), if_pos q, nn_s hq, gd_k k32, l32, e4, ck_n (show nh * 3 < 600 by omega) (by decide), nI_clamp (show nh * 3 < 2 ^ 31 by omega)]
    rw [cR_I, nn_s hq, gd_k k32, l32, cI_wI_ne _ _ _ (show z + 30 ≠ z + 32 by omega), h6, e4, e5, ck_n (show nh * 3 + 1 < 600 by omega) (by decide), nI_clamp (show nh * 3 + 1 < 2 ^ 31 by omega)]
    rw [cR_I, cR_I, nn_s hq, gd_k k32, l32, cI_wI_ne _ _ _ (show z + 30 ≠ z + 32 by omega), cI_wI_ne _ _ _ (show z + 30 ≠ z + 32 by omega), h6, e4, e6, ck_n (show nh * 3 + 2 < 600 by omega) (by decide), nI_clamp (show nh * 3 + 2 < 2 ^ 31 by omega), gd_k (hL.k 30 1 0 rfl)]
    rw [cI_wI_ne _ _ _ (show z + 30 ≠ z + 32 by omega), cI_wI_ne _ _ _ (show z + 30 ≠ z + 32 by omega), cI_wI_ne _ _ _ (show z + 30 ≠ z + 32 by omega), h6, nI_1]
  · rw [if_pos (show (200 : Int32) ≤ nI nh from nI_le (a := 200) (by omega) (by omega)), if_neg q, gd_k (hL.k 30 1 0 rfl), nI_1]
theorem m_half (N : Nat) {x s : Nat} {r : Int32} (hb : b < 2) (hx : x < 24) (hs : s < 8) (h79 : mF S 79 = nI nh) (hn : nh ≤ 1000000000) (h11 : mF S 11 = nI b) (h29 : mA S 29 (sl8 b x s) = r) :
    fM_noteHalf N (nI x) (nI s) who clo S = some (if mA S 54 x = 1 ∧ who ≠ nI x ∧ clo = 0 then hfS nh who (nI x) r S else S) := by
  unfold fM_noteHalf bM_noteHalf_78 bM_noteHalf_88
  rw [ck_n hx (by decide), nI_clamp (show x < 2 ^ 31 by omega)]
  by_cases q1 : mA S 54 x = 1
  · rw [if_pos q1]
    by_cases q2 : who = nI x
    · rw [if_pos q2, if_neg (show ¬ (mA S 54 x = 1 ∧ who ≠ nI x ∧ clo = 0) from fun w => w.2.1 q2)]
    · rw [if_neg q2]
      by_cases q3 : clo = 0
      · rw [if_pos q3, if_pos (show mA S 54 x = 1 ∧ who ≠ nI x ∧ clo = 0 from ⟨q1, q2, q3⟩), h79]
        unfold hfS
        by_cases q : nh < 200
        · rw [if_neg (show ¬ (200 : Int32) ≤ nI nh from nI_ge (b := 200) q (by decide)), if_pos q, ck_n q (by decide), nI_clamp (show nh < 2 ^ 31 by omega)]
          rw [mF_A, h79, ck_n q (by decide), nI_clamp (show nh < 2 ^ 31 by omega), mF_A, mF_A, h11, ix24, ix8, h79, ck_n (show 8 * (24 * b + x) + s < 384 by omega) (by decide), ck_n q (by decide), nI_clamp (show nh < 2 ^ 31 by omega), nI_clamp (show 8 * (24 * b + x) + s < 2 ^ 31 by omega), mF_A, mF_A, mF_A, h79, nI_1, mA_Ane _ _ _ (by decide), mA_Ane _ _ _ (by decide)]
          rw [show mA S 29 (8 * (24 * b + x) + s) = r from h29]
        · rw [if_pos (show (200 : Int32) ≤ nI nh from nI_le (a := 200) (by omega) (by omega)), if_neg q, nI_1]
      · rw [if_neg q3, if_neg (show ¬ (mA S 54 x = 1 ∧ who ≠ nI x ∧ clo = 0) from fun w => q3 w.2.2)]
  · rw [if_neg q1, if_neg (show ¬ (mA S 54 x = 1 ∧ who ≠ nI x ∧ clo = 0) from fun w => q1 w.1)]
/-- an order given -/
theorem c_ord (hL : LY z K M) (hd : SD z K M0 S0 b st nd) (sg : SAg z M0 M S0 S) (hst : z + 89 ≤ st ∧ kd K st = 6) (h4 : cR M (z + 35) 4 = some st) (hh : h < 25) (h5 : cR M (z + 35) 5 = some (z + 38 + 2 * h)) (h1 : cI M (z + 38 + 2 * h) 1 = who) {d : Nat} (hdn : d < nd) (hn24 : nd ≤ 24) (h6 : cI M (z + 30) 6 = nI no) (hno : no ≤ 1000000000) (v : Int32) :
    fC_X2_giveOrder N K (z + 35) (nI d) v M = if v < mA S 15 (24 * b + d) ∨ mA S 16 (24 * b + d) < v then RSE N K z 0 12 0 (odC z no who (nI d) v 0 M) else some (wI (odC z no who (nI d) v 1 M) (z + 18) d v) := by
  obtain ⟨a0, a1, a2, a3, -, ⟨r1, r2, r3, r4, r5, r6⟩, ⟨s1, s2, s3, s4, s5, s6⟩, -, q⟩ := hd
  obtain ⟨-, q1, q2, -⟩ := q d hdn
  have A : ∀ k, stR k → mA S k = mA S0 k := sg.2.2.2.2.2.1
  have I : ∀ a, z + 89 ≤ a → cI M a = cI M0 a := fun a ha => sg.1 a (by unfold stA; omega)
  have R : ∀ a j, z + 89 ≤ a → cR M a j = cR M0 a j := fun a j ha => sg.2.2.2.1 a j (Or.inl (by omega))
  have e1 : cI M a1 d = mA S 15 (24 * b + d) := by rw [I a1 r2.1, A 15 (by unfold stR; omega)]; exact q1
  have e2 : cI M a2 d = mA S 16 (24 * b + d) := by rw [I a2 s2.1, A 16 (by unfold stR; omega)]; exact q2
  have hx : ∀ w, (w = 0 ∨ w = 1) → bC_X2_giveOrder_31 N K (z + 35) (nI d) v w M = if w = 0 then RSE N K z 0 12 0 (odC z no who (nI d) v 0 M) else some (wI (odC z no who (nI d) v 1 M) (z + 18) d v) := fun w hw => by
    unfold bC_X2_giveOrder_31 bC_X2_giveOrder_72
    have hLo : LY z K (odC z no who (nI d) v w M) := ⟨hL.1, by rw [(odC_LR z no who (nI d) v w M).2]; exact hL.2.1, by rw [(odC_LR z no who (nI d) v w M).2]; exact hL.2.2.1, hL.2.2.2⟩
    rw [gd_k (hL.k 35 3 0 rfl), nn_s h5, gd_k (hL.2.2.1 h hh).2.1, nn_s (hL.r 35 1 30 (by decide)), gd_k (hL.k 30 1 0 rfl), h1, c_addOrder hL N h6 hno _ _ _ w hw, bs]
    rcases hw with rfl | rfl
    · rw [if_pos rfl, if_pos rfl, c_raise, bn_some]
    · rw [if_neg (by decide), if_neg (by decide), nn_s (hLo.r 35 0 8 (by decide)), gd_k (hL.k 8 5 0 rfl), nn_s (hLo.r 8 9 18 (by decide)), gd_k (hL.k 18 22 24 rfl), hL.l 18 22 24 rfl (by decide), ck_n (show d < 24 by omega) (by decide), nI_clamp (by omega)]
  unfold fC_X2_giveOrder bC_X2_giveOrder_30
  rw [gd_k (hL.k 35 3 0 rfl), nn_s h4, gd_k hst.2, nn_s (show cR M st 1 = some a1 by rw [R st 1 hst.1]; exact r1), gd_k r4, ck_n (show d < le K a1 by omega) r6, nI_clamp (by omega), e1, hx 0 (Or.inl rfl), if_pos rfl]
  by_cases c1 : v < mA S 15 (24 * b + d)
  · rw [if_pos c1, if_pos (show v < mA S 15 (24 * b + d) ∨ mA S 16 (24 * b + d) < v from Or.inl c1)]
  · rw [if_neg c1, nn_s h4, gd_k hst.2, nn_s (show cR M st 2 = some a2 by rw [R st 2 hst.1]; exact s1), gd_k s4, ck_n (show d < le K a2 by omega) s6, e2, hx 1 (Or.inr rfl), if_neg (show ¬ (1 : Int32) = 0 by decide)]
    by_cases c2 : mA S 16 (24 * b + d) < v
    · rw [if_pos c2, if_pos (show v < mA S 15 (24 * b + d) ∨ mA S 16 (24 * b + d) < v from Or.inr c2)]
    · rw [if_neg c2, if_neg (show ¬ (v < mA S 15 (24 * b + d) ∨ mA S 16 (24 * b + d) < v) from fun w => w.elim c1 c2)]
theorem m_ord (N : Nat) {d : Nat} (hb : b < 2) (hd : d < 24) (h11 : mF S 11 = nI b) (h84 : mF S 84 = nI no) (hno : no ≤ 1000000000) (v : Int32) :
    fM_orders N (nI d) v who S = if v < mA S 15 (24 * b + d) ∨ mA S 16 (24 * b + d) < v then some (1, pF (pF (odS no who (nI d) v 0 S) 90 12) 91 0) else some (0, pA (odS no who (nI d) v 1 S) 62 d v) := by
  have hx : ∀ w, (w = 0 ∨ w = 1) → bM_orders_41 N (nI d) v who w S = if w = 0 then some (1, pF (pF (odS no who (nI d) v 0 S) 90 12) 91 0) else some (0, pA (odS no who (nI d) v 1 S) 62 d v) := fun w hw => by
    have hy : bM_orders_41 N (nI d) v who w S = bM_orders_94 N (nI d) v w (if no < 200 then pA (pA (pA (pA S 80 no who) 81 no (nI d)) 82 no v) 83 no w else S) := by
      unfold bM_orders_41
      rw [h84]
      by_cases q : no < 200
      · rw [if_neg (show ¬ (200 : Int32) ≤ nI no from nI_ge (b := 200) q (by decide)), if_pos q, ck_n q (by decide), nI_clamp (show no < 2 ^ 31 by omega), mF_A, h84, ck_n q (by decide), nI_clamp (show no < 2 ^ 31 by omega), mF_A, mF_A, h84, ck_n q (by decide), nI_clamp (show no < 2 ^ 31 by omega), mF_A, mF_A, mF_A, h84, ck_n q (by decide), nI_clamp (show no < 2 ^ 31 by omega)]
        rcases hw with rfl | rfl <;> rfl
      · rw [if_pos (show (200 : Int32) ≤ nI no from nI_le (a := 200) (by omega) (by omega)), if_neg q]
    have hz : ∀ T : Ms, mF T 84 = nI no → bM_orders_94 N (nI d) v w T = if w = 0 then some (1, pF (pF (pF T 84 (nI (no + 1))) 90 12) 91 0) else some (0, pA (pF T 84 (nI (no + 1))) 62 d v) := fun T hT => by
      unfold bM_orders_94 bM_orders_124 bM_orders_141 fM_fails
      rw [hT, nI_1, ck_n hd (by decide), nI_clamp (show d < 2 ^ 31 by omega)]
      rcases hw with rfl | rfl
      · rw [if_pos rfl, if_pos rfl, ck_n hd (by decide), if_pos rfl, pA_self, bs]
      · rw [if_neg (by decide), if_neg (by decide), ck_n hd (by decide), if_neg (by decide)]
    have ho : ∀ w, odS no who (nI d) v w S = pF (if no < 200 then pA (pA (pA (pA S 80 no who) 81 no (nI d)) 82 no v) 83 no w else S) 84 (nI (no + 1)) := fun w => by
      unfold odS
      split <;> rfl
    rw [hy, hz _ (by split <;> exact h84), ho, ho]
    rcases hw with rfl | rfl <;> rfl
  unfold fM_orders bM_orders_40
  rw [h11, ix24, ck_n (show 24 * b + d < 48 by omega) (by decide), nI_clamp (show 24 * b + d < 2 ^ 31 by omega), hx 0 (Or.inl rfl), if_pos rfl, ck_n (show 24 * b + d < 48 by omega) (by decide), hx 1 (Or.inr rfl), if_neg (show ¬ (1 : Int32) = 0 by decide)]
  by_cases c1 : v < mA S 15 (24 * b + d)
  · rw [if_pos c1, if_pos (show v < mA S 15 (24 * b + d) ∨ mA S 16 (24 * b + d) < v from Or.inl c1)]
  · rw [if_neg c1]
    by_cases c2 : mA S 16 (24 * b + d) < v
    · rw [if_pos c2, if_pos (show v < mA S 15 (24 * b + d) ∨ mA S 16 (24 * b + d) < v from Or.inr c2)]
    · rw [if_neg c2, if_neg (show ¬ (v < mA S 15 (24 * b + d) ∨ mA S 16 (24 * b + d) < v) from fun w => w.elim c1 c2)]
/-- all units of the frames failed -/
theorem sf_lp (hh : h < 25) (hU : U.length = h) (hUn : U.Nodup) (hU2 : ∀ u, u ∈ U → u < 24) : ∀ (n i : Nat) (M : Cm), LY z K M → i ≤ h → h < n + i → cI M (z + 35) 6 = nI (h + 1) → (∀ k, k < h → cI M (z + 38 + 2 * (k + 1)) 1 = nI (U.getD k 0)) →
    ∃ M', lC_X2_step_28 N K (bC_X2_step_61 N K) (n + 1) (z + 35) (nI (i + 1)) M = some M' ∧ (∀ j, cI M' (z + 9) j = if j ∈ U.drop i then 3 else cI M (z + 9) j) ∧ (∀ j, cI M' (z + 12) j = if j ∈ U.drop i then 22 else cI M (z + 12) j) ∧ (∀ j, cI M' (z + 13) j = if j ∈ U.drop i then 0 else cI M (z + 13) j) ∧ (∀ a, a ≠ z + 9 → a ≠ z + 12 → a ≠ z + 13 → cI M' a = cI M a) ∧ cL M' = cL M ∧ cR M' = cR M := by
  intro n
  induction n with
  | zero => intro i M hL h1 h2; omega
  | succ n ih =>
    intro i M hL h1 h2 h6 hf
    rw [lC_X2_step_28, gd_k (hL.k 35 3 0 rfl), h6]
    by_cases e : i < h
    · have hu : U.getD i 0 ∈ U := by
        rw [gt_D U i (show i < U.length by omega)]
        exact List.getElem_mem _
      have hd : U.drop i = U.getD i 0 :: U.drop (i + 1) := by
        rw [gt_D U i (show i < U.length by omega)]
        exact List.drop_eq_getElem_cons (by omega)
      have hnd : U.getD i 0 ∉ U.drop (i + 1) := by
        have := (List.drop_sublist i U).nodup hUn
        rw [hd] at this
        exact (List.nodup_cons.mp this).1
      have u24 := hU2 _ hu
      rw [if_neg (show ¬ nI (h + 1) ≤ nI (i + 1) from nI_ge (by omega) (by omega)), nn_s (hL.r 35 2 36 (by decide)), gd_k (hL.k 36 25 25 rfl), hL.l 36 25 25 rfl (by decide), ck_n (show i + 1 < 25 by omega) (by decide), nI_clamp (show i + 1 < 2 ^ 31 by omega), nn_s (hL.2.2.1 (i + 1) (by omega)).1, gd_k (hL.2.2.1 (i + 1) (by omega)).2.1, nn_s (hL.r 35 0 8 (by decide)), gd_k (hL.k 8 5 0 rfl), hf i e, c_fail hL N u24, bs, nI_1]
      have hL' : LY z K (wI (wI (wI M (z + 9) (U.getD i 0) 3) (z + 12) (U.getD i 0) 22) (z + 13) (U.getD i 0) 0) := hL
      obtain ⟨M', a1, a2, a3, a4, a5, a6, a7⟩ := ih (i + 1) _ hL' (by omega) (by omega) (by rw [cI_wI_ne _ _ _ (by omega), cI_wI_ne _ _ _ (by omega), cI_wI_ne _ _ _ (by omega)]; exact h6) (fun k hk => by rw [cI_wI_ne _ _ _ (by omega), cI_wI_ne _ _ _ (by omega), cI_wI_ne _ _ _ (by omega)]; exact hf k hk)
      refine ⟨M', a1, fun j => ?_, fun j => ?_, fun j => ?_, fun a b1 b2 b3 => ?_, a6, a7⟩
      · rw [a2, hd, cI_wI_ne _ _ _ (by omega), cI_wI_ne _ _ _ (by omega), cI_w]
        by_cases ej : j = U.getD i 0
        · rw [if_neg (show ¬ j ∈ U.drop (i + 1) from fun w => hnd (ej ▸ w)), if_pos ⟨rfl, ej⟩, if_pos (show j ∈ U.getD i 0 :: U.drop (i + 1) by rw [ej]; exact List.mem_cons_self)]
        · by_cases em : j ∈ U.drop (i + 1)
          · rw [if_pos em, if_pos (show j ∈ U.getD i 0 :: U.drop (i + 1) from List.mem_cons_of_mem _ em)]
          · rw [if_neg em, if_neg (show ¬ (z + 9 = z + 9 ∧ j = U.getD i 0) from fun w => ej w.2), if_neg (show ¬ j ∈ U.getD i 0 :: U.drop (i + 1) from fun w => (List.mem_cons.mp w).elim ej em)]
      · rw [a3, hd, cI_wI_ne _ _ _ (by omega), cI_w, cI_wI_ne _ _ _ (show z + 12 ≠ z + 9 by omega)]
        by_cases ej : j = U.getD i 0
        · rw [if_neg (show ¬ j ∈ U.drop (i + 1) from fun w => hnd (ej ▸ w)), if_pos ⟨rfl, ej⟩, if_pos (show j ∈ U.getD i 0 :: U.drop (i + 1) by rw [ej]; exact List.mem_cons_self)]
        · by_cases em : j ∈ U.drop (i + 1)
          · rw [if_pos em, if_pos (show j ∈ U.getD i 0 :: U.drop (i + 1) from List.mem_cons_of_mem _ em)]
          · rw [if_neg em, if_neg (show ¬ (z + 12 = z + 12 ∧ j = U.getD i 0) from fun w => ej w.2), if_neg (show ¬ j ∈ U.getD i 0 :: U.drop (i + 1) from fun w => (List.mem_cons.mp w).elim ej em)]
      · rw [a4, hd, cI_w, cI_wI_ne _ _ _ (show z + 13 ≠ z + 12 by omega), cI_wI_ne _ _ _ (show z + 13 ≠ z + 9 by omega)]
        by_cases ej : j = U.getD i 0
        · rw [if_neg (show ¬ j ∈ U.drop (i + 1) from fun w => hnd (ej ▸ w)), if_pos ⟨rfl, ej⟩, if_pos (show j ∈ U.getD i 0 :: U.drop (i + 1) by rw [ej]; exact List.mem_cons_self)]
        · by_cases em : j ∈ U.drop (i + 1)
          · rw [if_pos em, if_pos (show j ∈ U.getD i 0 :: U.drop (i + 1) from List.mem_cons_of_mem _ em)]
          · rw [if_neg em, if_neg (show ¬ (z + 13 = z + 13 ∧ j = U.getD i 0) from fun w => ej w.2), if_neg (show ¬ j ∈ U.getD i 0 :: U.drop (i + 1) from fun w => (List.mem_cons.mp w).elim ej em)]
      · rw [a5 a b1 b2 b3, cI_wI_ne _ _ _ b3, cI_wI_ne _ _ _ b2, cI_wI_ne _ _ _ b1]
    · rw [if_pos (show nI (h + 1) ≤ nI (i + 1) from nI_le (by omega) (by omega))]
      have hd : U.drop i = [] := List.drop_eq_nil_of_le (by omega)
      refine ⟨M, rfl, fun j => ?_, fun j => ?_, fun j => ?_, fun _ _ _ _ => rfl, rfl, rfl⟩ <;> rw [hd, if_neg (List.not_mem_nil)]
end ACTS2
