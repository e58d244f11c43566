/-! reading a text: where both are -/
def TKS (z : Nat) (M : Cm) (S : Ms) (size t : Nat) : Prop := t ≤ size ∧ size ≤ 4000 ∧ cI M (z + 1) 6 = nI (t + 1) ∧ cI M (z + 3) t = 0 ∧ cI M (z + 4) t = nI size ∧ mA S 4 t = 0 ∧ mA S 5 t = nI size ∧ ∀ j, j < t → TK1 z M S j
def PT (z : Nat) (K : Ka) (M : Cm) (S : Ms) (size t at' : Nat) : Prop := LY z K M ∧ TKS z M S size t ∧ at' ≤ t ∧ mF S 7 = nI at' ∧ mF S 8 = 0 ∧ cI M (z + 7) 2 = nI at' ∧ cI M (z + 7) 3 = cI M (z + 3) at' ∧ ∀ j, mL S 10 j = kwT j
/-- the class moves on -/
def mv (z : Nat) (M : Cm) (j : Nat) : Cm := wI (wI M (z + 7) 2 (nI j)) (z + 7) 3 (cI M (z + 3) j)
theorem kwT_inj : ∀ r, r < 25 → ∀ q, q < 25 → kwT r = kwT q → r = q := by decide +kernel
theorem nL_inj {a b : Nat} (ha : a < 2 ^ 31) (hb : b < 2 ^ 31) (h : (nI a).toInt64 = (nI b).toInt64) : a = b := by
  have := congrArg Int64.toInt h
  rw [nL_int ha, nL_int hb] at this
  omega
section PRIM
variable {z : Nat} {K : Ka} {M : Cm} {S : Ms} {size t a : Nat}
theorem PT.pl (h : PT z K M S size t a) : ∃ p, p ≤ 4000 ∧ cI M (z + 4) a = nI p ∧ mA S 5 a = nI p := by
  obtain ⟨-, ⟨q1, q2, q3, q4, q5, q6, q7, q8⟩, h3, -⟩ := h
  by_cases e : a = t
  · subst e; exact ⟨size, q2, q5, q7⟩
  · obtain ⟨p0, ⟨p, p1, p2⟩, -⟩ := q8 a (by omega)
    exact ⟨p, p1, p0.trans p2, p2⟩
/-- no sign, word, name, number at the end -/
theorem PT.lt (h : PT z K M S size t a) (hk : cI M (z + 3) a ≠ 0) : a < t := by
  obtain ⟨-, ⟨q1, q2, q3, q4, q5, q6, q7, q8⟩, h3, -⟩ := h
  by_cases e : a = t
  · subst e; exact absurd q4 hk
  · omega
theorem mv_ok (hLY : LY z K M) (hT : TKS z M S size t) (N : Nat) {j : Nat} (hj : j ≤ t) : fC_X3_moveTo N K (z + 7) (nI j) M = some (mv z M j) := by
  obtain ⟨q1, q2, q3, -⟩ := hT
  unfold fC_X3_moveTo bC_X3_moveTo_30 mv
  rw [gd_k (hLY.k 7 4 0 rfl), cR_I, nn_s (hLY.r 7 0 1 (by decide)), gd_k (hLY.k 1 7 0 rfl), cI_wI_ne _ _ _ (show z + 1 ≠ z + 7 by omega), q3, if_neg (nI_ge (show j < t + 1 by omega) (by omega)), nn_s (hLY.r 7 0 1 (by decide)), gd_k (hLY.k 1 7 0 rfl), nn_s (hLY.r 1 1 3 (by decide)), gd_k (hLY.k 3 22 4001 rfl), hLY.l 3 22 4001 rfl (by decide), ck_n (show j < 4001 by omega) (by decide), nI_clamp (by omega), gd_k (hLY.k 7 4 0 rfl), cI_wI_ne _ _ _ (show z + 3 ≠ z + 7 by omega)]
theorem mv_I {b : Nat} (j : Nat) (hb : b ≠ z + 7) : cI (mv z M j) b = cI M b := by
  unfold mv
  rw [cI_wI_ne _ _ _ hb, cI_wI_ne _ _ _ hb]
theorem mv_o (j : Nat) {s : Nat} (h2 : s ≠ 2) (h3 : s ≠ 3) : cI (mv z M j) (z + 7) s = cI M (z + 7) s := by
  unfold mv
  rw [cI_w, if_neg (fun q => h3 q.2), cI_w, if_neg (fun q => h2 q.2)]
theorem mv_L (j : Nat) : cL (mv z M j) = cL M := rfl
theorem mv_R (j : Nat) : cR (mv z M j) = cR M := rfl
theorem mv_A (j : Nat) : AgA z K M (mv z M j) := ⟨fun a _ h => ⟨mv_I j h, rfl⟩, fun _ _ _ _ => rfl⟩
theorem TKS.mv (h : TKS z M S size t) (j : Nat) (v : Int32) (k : Nat) : TKS z (mv z M j) (pF S k v) size t := by
  unfold TKS TK1 at h ⊢
  rw [mv_I j (show z + 1 ≠ z + 7 by omega), mv_I j (show z + 3 ≠ z + 7 by omega), mv_I j (show z + 4 ≠ z + 7 by omega)]
  exact h
theorem PT.mv (h : PT z K M S size t a) {j : Nat} (hj : j ≤ t) : PT z K (mv z M j) (pF S 7 (nI j)) size t j := by
  obtain ⟨h1, h2, h3, h4, h5, h6, h7, h8⟩ := h
  refine ⟨h1, h2.mv j _ 7, hj, by rw [mF_F, if_pos rfl], by rw [mF_F, if_neg (by decide)]; exact h5, ?_, ?_, h8⟩
  · show cI (wI (wI M (z + 7) 2 (nI j)) (z + 7) 3 (cI M (z + 3) j)) (z + 7) 2 = _
    rw [cI_w, if_neg (by omega), cI_w, if_pos ⟨rfl, rfl⟩]
  · rw [mv_I j (show z + 3 ≠ z + 7 by omega)]
    show cI (wI (wI M (z + 7) 2 (nI j)) (z + 7) 3 (cI M (z + 3) j)) (z + 7) 3 = _
    rw [cI_w, if_pos ⟨rfl, rfl⟩]
/-- refused: both keep the same fault -/
theorem rf_ok (h : PT z K M S size t a) (N : Nat) (w : Int32) : ∃ p, p ≤ 4000 ∧ fT_X3_refuse N (z + 7) w K M = some (.inr (K, wI M (z + 7) 5 (w + 16 * nI p))) ∧ fM_wrong N w S = some (pF S 8 (w + 16 * nI p)) := by
  obtain ⟨p, p1, p2, p3⟩ := h.pl
  obtain ⟨hLY, ⟨q1, q2, q3, q4, q5, q6, q7, q8⟩, h3, h4, h5, h6, h7, h8⟩ := h
  refine ⟨p, p1, ?_, ?_⟩
  · unfold fT_X3_refuse bT_X3_refuse_40
    rw [gd_k (hLY.k 7 4 0 rfl), nn_s (hLY.r 7 0 1 (by decide)), gd_k (hLY.k 1 7 0 rfl), q3, h6, if_neg (nI_ge (show a < t + 1 by omega) (by omega)), nn_s (hLY.r 7 0 1 (by decide)), gd_k (hLY.k 1 7 0 rfl), nn_s (hLY.r 1 2 4 (by decide)), gd_k (hLY.k 4 22 4001 rfl), hLY.l 4 22 4001 rfl (by decide), ck_n (show a < 4001 by omega) (by decide), nI_clamp (by omega), gd_k (hLY.k 7 4 0 rfl), p2]
  · unfold fM_wrong bM_wrong_25
    rw [if_pos h5, h4, ck_n (show a < 4002 by omega) (by decide), nI_clamp (by omega), p3]
/-- the kind there, as the reference sees it -/
theorem k_sign (h : PT z K M S size t a) (N : Nat) {c : Nat} (h1 : 4 ≤ c) (h2 : c ≤ 126) : (cI M (z + 3) a = nI c ∧ fM_isSign N (nI c) S = some (1, S)) ∨ (cI M (z + 3) a ≠ nI c ∧ fM_isSign N (nI c) S = some (0, S)) := by
  obtain ⟨hLY, ⟨q1, q2, q3, q4, q5, q6, q7, q8⟩, h3, h4, h5, h6, h7, h8⟩ := h
  have neq : ∀ m, m < 2 ^ 31 → m ≠ c → nI m ≠ nI c := fun m hm hne q => hne ((nI_eq hm (by omega)).mp q)
  unfold fM_isSign bM_isSign_39 bM_isSign_40
  rw [if_pos h5, h4, ck_n (show a < 4002 by omega) (by decide), nI_clamp (by omega), ck_n (show a < 4002 by omega) (by decide)]
  by_cases e : a = t
  · subst e
    rw [q4, q6, if_neg (by decide)]
    exact Or.inr ⟨neq 0 (by decide) (by omega), rfl⟩
  · obtain ⟨-, -, p⟩ := q8 a (by omega)
    rcases p with ⟨s1, s2, s3⟩ | ⟨s1, s2, -⟩ | ⟨s1, d, d1, d2, d3, d4, d5⟩ | ⟨s1, s2⟩
    · right
      rw [s1, if_neg (by decide)]
      refine ⟨?_, rfl⟩
      rcases s3 with ⟨r, r1, r2, r3⟩ | ⟨-, r3⟩
      · rw [r3]; exact neq _ (by omega) (by omega)
      · rw [r3]; exact neq 2 (by decide) (by omega)
    · right
      rw [s1, s2, if_neg (by decide)]
      exact ⟨neq 3 (by decide) (by omega), rfl⟩
    · rw [s1, if_pos rfl, d4, d5]
      by_cases ed : d = c
      · subst ed
        left
        rw [if_pos (lgc0.mpr rfl)]
        exact ⟨rfl, rfl⟩
      · right
        rw [if_neg (fun q => ed (nL_inj (by omega) (by omega) (lgc0.mp q)))]
        exact ⟨neq d (by omega) ed, rfl⟩
    · right
      rw [s1, s2, if_neg (by decide)]
      exact ⟨neq 1 (by decide) (by omega), rfl⟩
theorem k_word (h : PT z K M S size t a) (N : Nat) {w : Nat} (hw : w < 25) : (cI M (z + 3) a = nI (128 + w) ∧ fM_isWord N (nI w) S = some (1, S)) ∨ (cI M (z + 3) a ≠ nI (128 + w) ∧ fM_isWord N (nI w) S = some (0, S)) := by
  obtain ⟨hLY, ⟨q1, q2, q3, q4, q5, q6, q7, q8⟩, h3, h4, h5, h6, h7, h8⟩ := h
  have neq : ∀ m, m < 2 ^ 31 → m ≠ 128 + w → nI m ≠ nI (128 + w) := fun m hm hne q => hne ((nI_eq hm (by omega)).mp q)
  unfold fM_isWord bM_isWord_43 bM_isWord_44
  rw [if_pos h5, h4, ck_n (show a < 4002 by omega) (by decide), nI_clamp (show a < 2 ^ 31 by omega), ck_n (show a < 4002 by omega) (by decide), ck_n (show w < 26 by omega) (by decide), nI_clamp (show w < 2 ^ 31 by omega), h8]
  by_cases e : a = t
  · subst e
    rw [q4, q6, if_neg (by decide)]
    exact Or.inr ⟨neq 0 (by decide) (by omega), rfl⟩
  · obtain ⟨-, -, p⟩ := q8 a (by omega)
    rcases p with ⟨s1, s2, s3⟩ | ⟨s1, s2, -⟩ | ⟨s1, d, d1, d2, d3, d4, d5⟩ | ⟨s1, s2⟩
    · rw [s1, if_pos rfl]
      rcases s3 with ⟨r, r1, r2, r3⟩ | ⟨r2, r3⟩
      · rw [r2, r3]
        by_cases er : r = w
        · subst er
          left
          rw [if_pos (lgc0.mpr rfl)]
          exact ⟨rfl, rfl⟩
        · right
          rw [if_neg (fun q => er (kwT_inj r r1 w hw (lgc0.mp q)))]
          exact ⟨neq _ (by omega) (by omega), rfl⟩
      · right
        rw [r3, if_neg (fun q => r2 w hw (lgc0.mp q))]
        exact ⟨neq 2 (by decide) (by omega), rfl⟩
    · right
      rw [s1, s2, if_neg (by decide)]
      exact ⟨neq 3 (by decide) (by omega), rfl⟩
    · right
      rw [s1, if_neg (by decide), d4]
      exact ⟨neq d (by omega) (by omega), rfl⟩
    · right
      rw [s1, s2, if_neg (by decide)]
      exact ⟨neq 1 (by decide) (by omega), rfl⟩
theorem nm_loop (N : Nat) {x : Int64} {S : Ms} {a : Nat} (ha : a < 4002) (h7 : mF S 7 = nI a) (hx : mL S 6 a = x) (h10 : ∀ j, mL S 10 j = kwT j) : ∀ (n i : Nat), i ≤ 25 → 25 < n + i → (∃ r, i ≤ r ∧ r < 25 ∧ x = kwT r) ∧ lM_isName_28 N (bM_isName_69 N) n 1 (nI i) S = some (0, S) ∨ (∀ r, i ≤ r → r < 25 → x ≠ kwT r) ∧ lM_isName_28 N (bM_isName_69 N) n 1 (nI i) S = some (1, S) := by
  intro n
  induction n with
  | zero => intro i h1 h2; omega
  | succ n ih =>
    intro i h1 h2
    rw [lM_isName_28]
    by_cases hi : i < 25
    · rw [if_neg (show ¬ (25 : Int32) ≤ nI i from nI_ge (b := 25) hi (by decide)), if_neg (by decide), h7, ck_n ha (by decide), ck_n (show i < 26 by omega) (by decide), nI_clamp (show a < 2 ^ 31 by omega), nI_clamp (show i < 2 ^ 31 by omega), hx, h10]
      unfold bM_isName_62
      rw [nI_1]
      by_cases e : x = kwT i
      · left
        rw [if_pos (lgc0.mpr e)]
        refine ⟨⟨i, Nat.le_refl i, hi, e⟩, ?_⟩
        obtain ⟨m, rfl⟩ : ∃ m, n = m + 1 := ⟨n - 1, by omega⟩
        rw [lM_isName_28]
        by_cases h5 : 25 ≤ i + 1
        · rw [if_pos (show (25 : Int32) ≤ nI (i + 1) from nI_le (a := 25) h5 (by omega))]; rfl
        · rw [if_neg (show ¬ (25 : Int32) ≤ nI (i + 1) from nI_ge (b := 25) (by omega) (by decide)), if_pos rfl]; rfl
      · rw [if_neg (fun q => e (lgc0.mp q))]
        rcases ih (i + 1) (by omega) (by omega) with ⟨⟨r, r1, r2, r3⟩, r4⟩ | ⟨r1, r2⟩
        · exact Or.inl ⟨⟨r, by omega, r2, r3⟩, r4⟩
        · refine Or.inr ⟨fun r g1 g2 => ?_, r2⟩
          by_cases er : r = i
          · rw [er]; exact e
          · exact r1 r (by omega) g2
    · have e : i = 25 := by omega
      subst e
      rw [if_pos (show (25 : Int32) ≤ nI 25 by decide)]
      exact Or.inr ⟨fun r g1 g2 => by omega, rfl⟩
theorem k_name (h : PT z K M S size t a) (N : Nat) (hN : 30 < N) : (cI M (z + 3) a = 2 ∧ fM_isName N S = some (1, S) ∧ cL M (z + 5) a = mL S 6 a ∧ ∀ r, r < 25 → mL S 6 a ≠ kwT r) ∨ (cI M (z + 3) a ≠ 2 ∧ fM_isName N S = some (0, S)) := by
  obtain ⟨hLY, ⟨q1, q2, q3, q4, q5, q6, q7, q8⟩, h3, h4, h5, h6, h7, h8⟩ := h
  have neq : ∀ m, m < 2 ^ 31 → m ≠ 2 → nI m ≠ 2 := fun m hm hne q => hne ((nI_eq (b := 2) hm (by omega)).mp q)
  have no : bM_isName_24 N S = some (0, S) := by
    unfold bM_isName_24 bM_isName_25
    obtain ⟨n, rfl⟩ : ∃ n, N = n + 1 := ⟨N - 1, by omega⟩
    rw [lM_isName_28, if_neg (by decide), if_pos rfl]
    rfl
  unfold fM_isName
  rw [if_pos h5, h4, ck_n (show a < 4002 by omega) (by decide), nI_clamp (show a < 2 ^ 31 by omega), no]
  by_cases e : a = t
  · subst e
    rw [q4, q6, if_neg (by decide)]
    exact Or.inr ⟨by decide, rfl⟩
  · obtain ⟨-, -, p⟩ := q8 a (by omega)
    rcases p with ⟨s1, s2, s3⟩ | ⟨s1, s2, -⟩ | ⟨s1, d, d1, d2, d3, d4, d5⟩ | ⟨s1, s2⟩
    · rw [s1, if_pos rfl]
      unfold bM_isName_25
      have lp := nm_loop N (show a < 4002 by omega) h4 rfl h8 N 0 (by omega) (by omega)
      rcases s3 with ⟨r, r1, r2, r3⟩ | ⟨r2, r3⟩
      · right
        refine ⟨by rw [r3]; exact neq _ (by omega) (by omega), ?_⟩
        rcases lp with ⟨-, l2⟩ | ⟨l1, -⟩
        · exact l2
        · exact absurd r2 (l1 r (by omega) r1)
      · left
        refine ⟨r3, ?_, s2, r2⟩
        rcases lp with ⟨⟨r, g1, g2, g3⟩, -⟩ | ⟨-, l2⟩
        · exact absurd g3 (r2 r g2)
        · exact l2
    · right
      rw [s1, s2, if_neg (by decide)]
      exact ⟨by decide, rfl⟩
    · right
      rw [s1, if_neg (by decide), d4]
      exact ⟨neq d (by omega) (by omega), rfl⟩
    · right
      rw [s1, s2, if_neg (by decide)]
      exact ⟨by decide, rfl⟩
end PRIM
