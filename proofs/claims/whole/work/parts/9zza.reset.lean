/-! the class's reset as a whole, and what the station is then -/
section RST
variable {z sm nd : Nat} {K : Ka} {M : Cm}
theorem rs2_lp (N : Nat) (k66 : Nat → Cm → Option Cm) (M0 : Cm) (ks : kd K sm = 6) (hz : z + 174 ≤ sm) (k2 : kd K (sm + 2) = 22) (l2 : nd ≤ le K (sm + 2)) (l3 : le K (sm + 2) < 2 ^ 31) (h24 : nd ≤ 24) (h10 : cI M0 sm 10 = nI nd) (hr : cR M0 sm 1 = some (sm + 2)) : ∀ (n d : Nat) (M : Cm), d ≤ nd → nd < n + d → LY z K M → AgM (fun a => a ≠ z + 17 ∧ a ≠ z + 18) M0 M → (∀ e, e < d → cI M (z + 17) e = cI M0 (sm + 2) e ∧ cI M (z + 18) e = cI M0 (sm + 2) e) →
    ∃ M', lC_X4_reset_28 N K k66 n (z + 8) sm (nI d) M = k66 (z + 8) M' ∧ AgM (fun a => a ≠ z + 17 ∧ a ≠ z + 18) M0 M' ∧ ∀ e, e < nd → cI M' (z + 17) e = cI M0 (sm + 2) e ∧ cI M' (z + 18) e = cI M0 (sm + 2) e := by
  intro n
  induction n with
  | zero => intro d M h1 h2; omega
  | succ n ih =>
    intro d M h1 h2 hLY ag hz'
    have e10 : cI M sm 10 = nI nd := by rw [ag.1 sm (by omega)]; exact h10
    rw [lC_X4_reset_28, gd_k ks, e10]
    by_cases hd : d < nd
    · have r1 : cR M sm 1 = some (sm + 2) := by rw [ag.2.2]; exact hr
      have es : cI M (sm + 2) = cI M0 (sm + 2) := ag.1 _ (by omega)
      have e2 : cI (wI M (z + 17) d (cI M0 (sm + 2) d)) (sm + 2) = cI M0 (sm + 2) := by rw [cI_wI_ne _ _ _ (by omega), es]
      rw [if_neg (nI_ge hd (by omega)), gd_k (hLY.k 8 5 0 rfl), nn_s r1, gd_k k2, ck_n (by omega) l3, nn_s (hLY.r 8 8 17 (by decide)), gd_k (hLY.k 17 22 24 rfl), hLY.l 17 22 24 rfl (by decide), ck_n (by omega) (by decide), cR_I, nn_s r1, gd_k k2, ck_n (by omega) l3, nn_s (hLY.r 8 9 18 (by decide)), gd_k (hLY.k 18 22 24 rfl), hLY.l 18 22 24 rfl (by decide), ck_n (by omega) (by decide), nI_clamp (by omega), nI_1, es, e2]
      have ag1 : AgM (fun a => a ≠ z + 17 ∧ a ≠ z + 18) M (wI (wI M (z + 17) d (cI M0 (sm + 2) d)) (z + 18) d (cI M0 (sm + 2) d)) := ⟨fun a ha => by rw [cI_wI_ne _ _ _ ha.2, cI_wI_ne _ _ _ ha.1], fun _ _ => rfl, rfl⟩
      refine ih (d + 1) _ (by omega) (by omega) (hLY.sb ag1) ⟨fun a ha => (ag1.1 a ha).trans (ag.1 a ha), fun a ha => (ag1.2.1 a ha).trans (ag.2.1 a ha), ag1.2.2.trans ag.2.2⟩ (fun e he => ?_)
      rw [cI_wI_ne _ _ _ (show z + 17 ≠ z + 18 by omega), cI_w, cI_w]
      by_cases w : e = d
      · subst w
        rw [if_pos ⟨rfl, rfl⟩, if_pos ⟨rfl, rfl⟩]
        exact ⟨rfl, rfl⟩
      · rw [if_neg (fun q => w q.2), if_neg (fun q => w q.2), cI_wI_ne _ _ _ (show z + 18 ≠ z + 17 by omega)]
        exact hz' e (by omega)
    · have : d = nd := by omega
      subst this
      rw [if_pos (nI_le (Nat.le_refl _) (by omega))]
      exact ⟨M, rfl, ag, hz'⟩
theorem rst_ok (hLY : LY z K M) (ks : kd K sm = 6) (hz : z + 174 ≤ sm) (k2 : kd K (sm + 2) = 22) (l2 : nd ≤ le K (sm + 2)) (l3 : le K (sm + 2) < 2 ^ 31) (h24 : nd ≤ 24) (h10 : cI M sm 10 = nI nd) (hr : cR M sm 1 = some (sm + 2)) {N : Nat} (hN : 192 < N) :
    ∃ M', fC_X4_reset N K (z + 8) sm M = some M' ∧ AgM (fun a => ¬ (z + 8 ≤ a ∧ a ≤ z + 18) ∨ a = z + 14) M M' ∧ (∀ v, v < 24 → rsZ z M' v) ∧ (∀ j, j < 192 → cI M' (z + 11) j = 0) ∧ (∀ e, e < nd → cI M' (z + 17) e = cI M (sm + 2) e ∧ cI M' (z + 18) e = cI M (sm + 2) e) ∧ (∀ j, j < 24 → cI M' (z + 16) j = 0) ∧ cI M' (z + 8) 10 = 0 ∧ cI M' (z + 8) 11 = 0 := by
  obtain ⟨M1, a1, a2, a3, a4⟩ := rs_loop N hN (bC_X4_reset_26 N K) sm N 0 M (by omega) (by omega) hLY (fun v hv => by omega) (fun j hj => by omega)
  have L1 := hLY.sb a2
  obtain ⟨M2, c1, c2, c3⟩ := rs2_lp N (bC_X4_reset_66 N K) M1 ks hz k2 l2 l3 h24 (by rw [a2.1 sm (by omega)]; exact h10) (by rw [a2.2.2]; exact hr) N 0 M1 (by omega) (by omega) L1 ⟨fun _ _ => rfl, fun _ _ => rfl, rfl⟩ (fun e he => by omega)
  have L2 := L1.sb c2
  have g3 : AgM (fun a => a ≠ z + 8) M2 (wI M2 (z + 8) 11 0) := ⟨fun a ha => cI_wI_ne _ _ _ ha, fun _ _ => rfl, rfl⟩
  obtain ⟨M3, d1, d2, d3, d4, d5⟩ := drop_ok (L2.sb g3) N (by omega)
  have all : ∀ a, (¬ (z + 8 ≤ a ∧ a ≤ z + 18) ∨ a = z + 14) → cI M3 a = cI M a ∧ cL M3 a = cL M a := fun a ha => by
    rw [d2.1 a (by omega), d2.2.1 a (by omega), g3.1 a (by omega), g3.2.1 a (by omega), c2.1 a (by omega), c2.2.1 a (by omega), a2.1 a (by omega), a2.2.1 a (by omega)]
    exact ⟨rfl, rfl⟩
  refine ⟨M3, ?_, ⟨fun a ha => (all a ha).1, fun a ha => (all a ha).2, by rw [d2.2.2, g3.2.2, c2.2.2, a2.2.2]⟩, fun v hv => ?_, fun j hj => ?_, fun e he => ?_, d3, d4, ?_⟩
  · have e1 : fC_X4_reset N K (z + 8) sm M = bC_X4_reset_26 N K (z + 8) sm M1 := a1
    have e2 : bC_X4_reset_26 N K (z + 8) sm M1 = bC_X4_reset_66 N K (z + 8) M2 := c1
    rw [e1, e2]
    unfold bC_X4_reset_66
    rw [gd_k (hLY.k 8 5 0 rfl), d1, bs]
  · have := a3 v hv
    unfold rsZ at this ⊢
    rw [d2.1 (z + 9) (by omega), d2.1 (z + 10) (by omega), d2.1 (z + 12) (by omega), d2.1 (z + 13) (by omega), d2.1 (z + 15) (by omega), g3.1 (z + 9) (by omega), g3.1 (z + 10) (by omega), g3.1 (z + 12) (by omega), g3.1 (z + 13) (by omega), g3.1 (z + 15) (by omega), c2.1 (z + 9) (by omega), c2.1 (z + 10) (by omega), c2.1 (z + 12) (by omega), c2.1 (z + 13) (by omega), c2.1 (z + 15) (by omega)]
    exact this
  · rw [d2.1 (z + 11) (by omega), g3.1 (z + 11) (by omega), c2.1 (z + 11) (by omega)]
    exact a4 j hj
  · rw [d2.1 (z + 17) (by omega), g3.1 (z + 17) (by omega), d2.1 (z + 18) (by omega), g3.1 (z + 18) (by omega)]
    have := c3 e he
    rw [a2.1 (sm + 2) (by omega)] at this
    exact this
  · rw [d5 11 (by decide), cI_w, if_pos ⟨rfl, rfl⟩]
end RST
