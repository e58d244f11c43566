/-! a device named by both -/
section TDEV
variable {z : Nat} {K : Ka} {M : Cm} {S : Ms} {size t a bn sm nd nu nm : Nat}
theorem td_80 (N : Nat) {S : Ms} {a : Nat} (h7 : mF S 7 = nI a) (x : Int32) : bM_takeDevice_80 N x S = some (x, pF S 7 (nI (a + 1))) := by
  unfold bM_takeDevice_80
  rw [h7, nI_1]
theorem d_tD {S : Ms} {f : Nat} (h : DS S f) (N : Nat) : fM_takeDevice N S = some (-1, pF S 7 (mF S 7 + 1)) := by
  unfold fM_takeDevice bM_takeDevice_19 bM_takeDevice_63 bM_takeDevice_80
  rw [if_neg h.n0, if_neg h.n0, if_neg h.n0]
theorem l_dev (h : PT z K M S size t a) (hn : NNw z K M S bn sm nd nu nm) (N : Nat) (hN : 30 < N) : (∃ d, d < nd ∧ cI M (z + 3) a = 2 ∧ a < t ∧ fT_X3_takeDevice N (z + 7) K M = some (.inl (nI d, K, mv z M (a + 1))) ∧ fM_takeDevice N S = some (nI d, pF S 7 (nI (a + 1)))) ∨ (∃ f, FLT f ∧ fT_X3_takeDevice N (z + 7) K M = some (.inr (K, wI M (z + 7) 5 (nI f))) ∧ fM_takeDevice N S = some (-1, pF (pF S 8 (nI f)) 7 (nI (a + 1)))) := by
  obtain ⟨hLY, hT, h3, h4, h5, h6, h7, h8⟩ := id h
  obtain ⟨n1, n2, n3, n4, n5, n6, n7, n8, n9, n10, n11, n14, n15⟩ := hn
  have ha : a < 4002 := by have := hT.1; have := hT.2.1; omega
  have b2 : bn < 2 := by omega
  rcases k_name h N hN with ⟨e, m, v, kw⟩ | ⟨e, m⟩
  · have hl : a < t := h.lt (by rw [e]; decide)
    have ve : fC_X6_valueAt N K (z + 1) (nI a) M = some (mL S 6 a, M) := by rw [va_ok h N h3, v]
    obtain ⟨a0, x0, y0⟩ := n14.find N (by omega) rfl (by show 24 * bn + nd ≤ 48; omega) (by decide) (mL S 6 a)
    have cls : fT_X3_takeDevice N (z + 7) K M = ((fC_X8_rankOf N K (mL S 6 a) a0 (nI nd) M).bind fun o38 => if 0 ≤ o38.1 then ((bT_X3_takeDevice_51 N) (z + 7) o38.1 K o38.2) else (tb (fT_X3_refuse N (z + 7) 2 K o38.2) fun o48 => (bT_X3_takeDevice_51 N) (z + 7) o38.1 o48.1 o48.2)) := by
      unfold fT_X3_takeDevice bT_X3_takeDevice_13
      rw [gd_k (hLY.k 7 4 0 rfl), if_pos (h7.trans e), gd_k (hLY.k 7 4 0 rfl), nn_s (hLY.r 7 0 1 (by decide)), gd_k (hLY.k 1 7 0 rfl), h6, ve, bs]
      dsimp only
      rw [nn_s n3, gd_k n4, nn_s n3, gd_k n4, nn_s x0, n8]
    have ref : fM_takeDevice N S = ((fM_find N 14 (nI (24 * bn)) (nI nd) (mL S 6 a) S).bind fun o56 => (bM_takeDevice_63 N) o56.1 o56.2) := by
      unfold fM_takeDevice
      rw [if_pos h5, m, bs]
      dsimp only
      rw [if_neg (by decide)]
      unfold bM_takeDevice_19
      rw [if_pos h5, n2, h4, ck_n b2 (by decide), ck_n ha (by decide), nI_clamp (show a < 2 ^ 31 by omega), nI_clamp (show bn < 2 ^ 31 by omega), e24b, n9]
    rcases y0 with ⟨k, k1, k2, k3, k4⟩ | ⟨k2, k3, k4⟩
    · left
      refine ⟨k, k1, e, hl, ?_, ?_⟩
      · rw [cls, k3, bs]
        dsimp only
        rw [if_pos (nI_ge0 (by omega))]
        unfold bT_X3_takeDevice_51
        rw [gd_k (hLY.k 7 4 0 rfl), h6, nI_1, mv_ok hLY hT N (by omega), bs]
      · rw [ref, k4, bs]
        unfold bM_takeDevice_63
        dsimp only
        rw [if_pos h5, if_pos (nI_ge0 (by omega)), td_80 N h4]
    · right
      obtain ⟨f, f1, f2, f3⟩ := rf_nI h N (w := 2) (by omega) (by omega)
      have f2' : fT_X3_refuse N (z + 7) 2 K M = some (.inr (K, wI M (z + 7) 5 (nI f))) := f2
      have f3' : fM_wrong N 2 S = some (pF S 8 (nI f)) := f3
      refine ⟨f, f1, ?_, ?_⟩
      · rw [cls, k3, bs]
        dsimp only
        rw [if_neg (by decide), f2']
        rfl
      · rw [ref, k4, bs]
        unfold bM_takeDevice_63
        dsimp only
        rw [if_pos h5, if_neg (by decide), f3', bs]
        exact td_80 (S := pF S 8 (nI f)) N h4 _
  · right
    obtain ⟨f, f1, f2, f3⟩ := rf_nI h N (w := 1) (by omega) (by omega)
    have f2' : fT_X3_refuse N (z + 7) 1 K M = some (.inr (K, wI M (z + 7) 5 (nI f))) := f2
    have f3' : fM_wrong N 1 S = some (pF S 8 (nI f)) := f3
    have hd : DS (pF S 8 (nI f)) f := ⟨f1, rfl⟩
    refine ⟨f, f1, ?_, ?_⟩
    · unfold fT_X3_takeDevice
      rw [gd_k (hLY.k 7 4 0 rfl), if_neg (fun w => e (h7.symm.trans w)), f2']
      rfl
    · unfold fM_takeDevice
      rw [if_pos h5, m, bs]
      dsimp only
      rw [if_pos rfl, f3', bs]
      unfold bM_takeDevice_19 bM_takeDevice_63
      rw [if_neg hd.n0, if_neg hd.n0]
      exact td_80 (S := pF S 8 (nI f)) N h4 _
end TDEV
