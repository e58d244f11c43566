/-! what a token is: the class's kind, place and value; the reference's sort, place and value -/
def tk1 (kd pl : Int32) (v : Int64) (so pl' : Int32) (w : Int64) : Prop := pl = pl' ∧ (∃ p, p ≤ 4000 ∧ pl' = nI p) ∧
  ((so = 1 ∧ v = w ∧ ((∃ r, r < 25 ∧ w = kwT r ∧ kd = nI (128 + r)) ∨ (∀ r, r < 25 → w ≠ kwT r) ∧ kd = 2)) ∨ (so = 2 ∧ kd = 3 ∧ v = w ∧ ∃ q, q ≤ 999999999 ∧ w = (nI q).toInt64) ∨ (so = 3 ∧ ∃ c, 33 ≤ c ∧ c ≤ 126 ∧ sgb (nI c) = 1 ∧ kd = nI c ∧ w = (nI c).toInt64) ∨ (so = 4 ∧ kd = 1))
def TK1 (z : Nat) (M : Cm) (S : Ms) (j : Nat) : Prop := tk1 (cI M (z + 3) j) (cI M (z + 4) j) (cL M (z + 5) j) (mA S 4 j) (mA S 5 j) (mL S 6 j)
def aTk (z : Nat) (M : Cm) (t : Nat) (kd pl : Int32) (v : Int64) : Cm := wI (wL (wI (wI M (z + 3) t kd) (z + 4) t pl) (z + 5) t v) (z + 1) 6 (nI (t + 1))
def mTk (S : Ms) (t : Nat) (so pl : Int32) (w : Int64) : Ms := pL (pA (pA S 5 t pl) 4 t so) 6 t w
section TOKEN
variable {z : Nat} {K : Ka} {M : Cm} {S : Ms}
theorem a_3 (t : Nat) (k pl : Int32) (v : Int64) (j : Nat) : cI (aTk z M t k pl v) (z + 3) j = if j = t then k else cI M (z + 3) j := by
  unfold aTk
  rw [cI_wI_ne _ _ _ (show z + 3 ≠ z + 1 by omega), cI_L, cI_wI_ne _ _ _ (show z + 3 ≠ z + 4 by omega), cI_w]
  simp
theorem a_4 (t : Nat) (k pl : Int32) (v : Int64) (j : Nat) : cI (aTk z M t k pl v) (z + 4) j = if j = t then pl else cI M (z + 4) j := by
  unfold aTk
  rw [cI_wI_ne _ _ _ (show z + 4 ≠ z + 1 by omega), cI_L, cI_w, cI_wI_ne _ _ _ (show z + 4 ≠ z + 3 by omega)]
  simp
theorem a_5 (t : Nat) (k pl : Int32) (v : Int64) (j : Nat) : cL (aTk z M t k pl v) (z + 5) j = if j = t then v else cL M (z + 5) j := by
  unfold aTk
  rw [cL_I, cL_w, cL_I, cL_I]
  simp
theorem a_6 (t : Nat) (k pl : Int32) (v : Int64) : cI (aTk z M t k pl v) (z + 1) 6 = nI (t + 1) := by
  unfold aTk
  rw [cI_w, if_pos ⟨rfl, rfl⟩]
theorem a_s (t : Nat) (k pl : Int32) (v : Int64) {j : Nat} (hj : j ≠ 6) : cI (aTk z M t k pl v) (z + 1) j = cI M (z + 1) j := by
  unfold aTk
  rw [cI_w, if_neg (fun q => hj q.2), cI_L, cI_wI_ne _ _ _ (show z + 1 ≠ z + 4 by omega), cI_wI_ne _ _ _ (show z + 1 ≠ z + 3 by omega)]
theorem a_ag (t : Nat) (k pl : Int32) (v : Int64) : AgM (fun a => a ≠ z + 1 ∧ a ≠ z + 3 ∧ a ≠ z + 4 ∧ a ≠ z + 5) M (aTk z M t k pl v) := by
  unfold aTk
  exact ⟨fun a ha => by rw [cI_wI_ne _ _ _ ha.1, cI_L, cI_wI_ne _ _ _ ha.2.2.1, cI_wI_ne _ _ _ ha.2.1], fun a ha => by rw [cL_I, cL_wL_ne _ _ _ ha.2.2.2]; rfl, rfl⟩
theorem t_4 (t : Nat) (so pl : Int32) (w : Int64) (j : Nat) : mA (mTk S t so pl w) 4 j = if j = t then so else mA S 4 j := by
  unfold mTk
  rw [mA_L, mA_A, mA_Ane _ _ _ (by decide)]
  simp
theorem t_5 (t : Nat) (so pl : Int32) (w : Int64) (j : Nat) : mA (mTk S t so pl w) 5 j = if j = t then pl else mA S 5 j := by
  unfold mTk
  rw [mA_L, mA_Ane _ _ _ (by decide), mA_A]
  simp
theorem t_6 (t : Nat) (so pl : Int32) (w : Int64) (j : Nat) : mL (mTk S t so pl w) 6 j = if j = t then w else mL S 6 j := by
  unfold mTk
  rw [mL_L, mL_A, mL_A]
  simp
theorem t_ag (t : Nat) (so pl : Int32) (w : Int64) : AgS (fun _ => True) (fun k => k ≠ 4 ∧ k ≠ 5 ∧ k ≠ 6) S (mTk S t so pl w) := by
  unfold mTk
  refine ⟨fun k _ => rfl, fun k hk => by rw [mA_L, mA_Ane _ _ _ hk.1, mA_Ane _ _ _ hk.2.1], fun k hk => ?_⟩
  funext j
  rw [mL_L, if_neg (fun q => hk.2.2 q.1), mL_A, mL_A]
theorem tk_add {t : Nat} {k pl : Int32} {v : Int64} {so pl' : Int32} {w : Int64} (h : ∀ j, j < t → TK1 z M S j) (hn : tk1 k pl v so pl' w) : ∀ j, j < t + 1 → TK1 z (aTk z M t k pl v) (mTk S t so pl' w) j := by
  intro j hj
  unfold TK1
  rw [a_3, a_4, a_5, t_4, t_5, t_6]
  by_cases e : j = t
  · rw [if_pos e, if_pos e, if_pos e, if_pos e, if_pos e, if_pos e]
    exact hn
  · rw [if_neg e, if_neg e, if_neg e, if_neg e, if_neg e, if_neg e]
    exact h j (by omega)
theorem at_ok (hLY : LY z K M) (N : Nat) {t : Nat} (ht : t ≤ 4000) (h6 : cI M (z + 1) 6 = nI t) (k pl : Int32) (v : Int64) : fC_X6_addToken N K (z + 1) k pl v M = some (aTk z M t k pl v) := by
  have l3 := hLY.l 3 22 4001 rfl (by decide)
  have l4 := hLY.l 4 22 4001 rfl (by decide)
  have l5 := hLY.l 5 23 4001 rfl (by decide)
  have r1 := hLY.r 1 1 3 (by decide)
  have i3 : ∀ v' : Int32, cI (wI M (z + 3) t v') (z + 1) 6 = nI t := fun v' => by rw [cI_wI_ne _ _ _ (show z + 1 ≠ z + 3 by omega)]; exact h6
  have i4 : ∀ v' v'' : Int32, cI (wI (wI M (z + 3) t v') (z + 4) t v'') (z + 1) 6 = nI t := fun v' v'' => by rw [cI_wI_ne _ _ _ (show z + 1 ≠ z + 4 by omega)]; exact i3 v'
  unfold fC_X6_addToken bC_X6_addToken_52
  rw [gd_k (hLY.k 1 7 0 rfl), nn_s r1, gd_k (hLY.k 3 22 4001 rfl), l3, h6, if_neg (show ¬ nI 4001 ≤ nI t from nI_ge (b := 4001) (by omega) (by decide)), nn_s r1, gd_k (hLY.k 3 22 4001 rfl), l3, ck_n (show t < 4001 by omega) (by decide), nI_clamp (by omega), cR_I, nn_s (hLY.r 1 2 4 (by decide)), gd_k (hLY.k 4 22 4001 rfl), l4, i3, ck_n (show t < 4001 by omega) (by decide), nI_clamp (by omega), cR_I, cR_I, nn_s (hLY.r 1 3 5 (by decide)), gd_k (hLY.k 5 23 4001 rfl), l5, i4, ck_n (show t < 4001 by omega) (by decide), nI_clamp (by omega), cI_L, i4, nI_1]
  rfl
/-- signs of both -/
def SG (z : Nat) (K : Ka) (M : Cm) (S : Ms) (size : Nat) : Prop := LY z K M ∧ size ≤ 4000 ∧ cI M (z + 1) 5 = nI size ∧ mF S 3 = nI size ∧ (∀ j, j < size → cI M (z + 2) j = mA S 1 j ∧ ∃ c, (c = 10 ∨ 32 ≤ c ∧ c ≤ 126) ∧ mA S 1 j = nI c) ∧ ∀ j, cL M (z + 6) j = kwT j
theorem SG.add {size t : Nat} {k pl : Int32} {v : Int64} {so pl' : Int32} {w : Int64} (h : SG z K M S size) : SG z K (aTk z M t k pl v) (mTk S t so pl' w) size := by
  obtain ⟨h1, h2, h3, h4, h5, h6⟩ := h
  have hM := a_ag (z := z) (M := M) t k pl v
  have hS := t_ag (S := S) t so pl' w
  refine ⟨h1.sb hM, h2, ?_, ?_, ?_, ?_⟩
  · rw [a_s _ _ _ _ (by decide)]; exact h3
  · rw [hS.1 3 trivial]; exact h4
  · rw [hM.1 (z + 2) (by omega), hS.2.1 1 (by decide)]; exact h5
  · rw [hM.2.1 (z + 6) (by omega)]; exact h6
/-- a word -/
theorem wd_loop {size fr : Nat} (h : SG z K M S size) (N : Nat) (kC : Nat → Int32 → Int64 → Int32 → Cm → Option (Int32 × Cm)) (kM : Int32 → Int32 → Int32 → Int64 → Ms → Option Ms) (x1 : Int32) : ∀ (n k : Nat) (x2 x5 : Int64), fr ≤ k → k ≤ size → size < n + k → (k - fr ≤ 12 → x2 = x5) →
    ∃ e y2 y5, k ≤ e ∧ e ≤ size ∧ (e - fr ≤ 12 → y2 = y5) ∧ (k < size → isLb (mA S 1 k) ≠ 0 → k < e) ∧ lC_X6_scanWord_5 N K kC n (z + 1) (nI fr) x2 (nI k) M = kC (z + 1) (nI fr) y2 (nI e) M ∧ lM_cutAll_70 N kM n x1 (nI k) (nI fr) x5 S = kM x1 (nI e) (nI fr) y5 S := by
  obtain ⟨hLY, h2, h3, h4, h5, h6⟩ := h
  have l2 := hLY.l 2 21 4000 rfl (by decide)
  have r0 := hLY.r 1 0 2 (by decide)
  intro n
  induction n with
  | zero => intro k x2 x5 q1 q2 q3; omega
  | succ n ih =>
    intro k x2 x5 q1 q2 q3 q4
    rw [lC_X6_scanWord_5, lM_cutAll_70, gd_k (hLY.k 1 7 0 rfl), h3, h4]
    by_cases hk : k < size
    · obtain ⟨e1, -⟩ := h5 k hk
      rw [if_neg (nI_ge hk (by omega)), if_neg (nI_ge hk (by omega)), nn_s r0, gd_k (hLY.k 2 21 4000 rfl), l2, ck_n (show k < 4000 by omega) (by decide), ck_n (show k < 4000 by omega) (by decide), nI_clamp (by omega), x_isL, m_isL, bs, bs, e1]
      dsimp only
      have go : ∃ e y2 y5, k ≤ e ∧ e ≤ size ∧ (e - fr ≤ 12 → y2 = y5) ∧ (k < size → isLb (mA S 1 k) ≠ 0 → k < e) ∧ bC_X6_scanWord_40 N K (lC_X6_scanWord_5 N K kC n) kC (z + 1) (nI fr) x2 (nI k) M = kC (z + 1) (nI fr) y2 (nI e) M ∧ bM_cutAll_102 N (lM_cutAll_70 N kM n) kM x1 (nI k) (nI fr) x5 S = kM x1 (nI e) (nI fr) y5 S := by
        unfold bC_X6_scanWord_40 bM_cutAll_102 bM_cutAll_133
        rw [gd_k (hLY.k 1 7 0 rfl), nn_s r0, gd_k (hLY.k 2 21 4000 rfl), l2, ck_n (show k < 4000 by omega) (by decide), nI_clamp (by omega), x_ws, bs, e1, nI_sub q1 (by omega), nI_1, wsg_rkb]
        dsimp only
        by_cases h12 : 12 ≤ k - fr
        · rw [if_pos (show (12 : Int32) ≤ nI (k - fr) from nI_le (a := 12) h12 (by omega))]
          obtain ⟨e, y2, y5, a1, a2, a3, a4, a5, a6⟩ := ih (k + 1) (x2 * 37 + (rkb (mA S 1 k)).toInt64) x5 (by omega) (by omega) (by omega) (fun q => by omega)
          exact ⟨e, y2, y5, by omega, a2, a3, fun _ _ => by omega, a5, a6⟩
        · rw [if_neg (show ¬ (12 : Int32) ≤ nI (k - fr) from nI_ge (b := 12) (by omega) (by decide)), ck_n (show k < 4000 by omega) (by decide), m_rk, bs]
          dsimp only
          obtain ⟨e, y2, y5, a1, a2, a3, a4, a5, a6⟩ := ih (k + 1) (x2 * 37 + (rkb (mA S 1 k)).toInt64) (37 * x5 + (rkb (mA S 1 k)).toInt64) (by omega) (by omega) (by omega) (fun q => by rw [q4 (by omega), Int64.mul_comm])
          exact ⟨e, y2, y5, by omega, a2, a3, fun _ _ => by omega, a5, a6⟩
      by_cases hL : isLb (mA S 1 k) = 0
      · rw [if_pos hL, if_pos hL, nn_s r0, gd_k (hLY.k 2 21 4000 rfl), l2, ck_n (show k < 4000 by omega) (by decide), ck_n (show k < 4000 by omega) (by decide), x_isD, m_isD, bs, bs, e1]
        dsimp only
        by_cases hD : isDb (mA S 1 k) = 0
        · rw [if_pos hD, if_pos hD]
          exact ⟨k, x2, x5, Nat.le_refl k, q2, q4, fun _ q => absurd hL q, rfl, rfl⟩
        · rw [if_neg hD, if_neg hD]
          exact go
      · rw [if_neg hL, if_neg hL]
        exact go
    · rw [if_pos (nI_le (by omega) (by omega)), if_pos (nI_le (by omega) (by omega))]
      exact ⟨k, x2, x5, Nat.le_refl k, q2, q4, fun q => by omega, rfl, rfl⟩
end TOKEN
