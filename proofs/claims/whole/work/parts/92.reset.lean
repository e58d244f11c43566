/-! the class's reset -/
section RESET
variable {z : Nat} {K : Ka} {M : Cm}
/-- renew, whatever stood there -/
theorem rn_c (h1 : LY z K M) (N : Nat) (hN : 192 < N) {u : Nat} (hu : u < 24) : ∃ M1, fC_X4_renew N K (z + 8) (nI u) M = some M1 ∧ AgM (fun a => a ≠ z + 9 ∧ a ≠ z + 10 ∧ a ≠ z + 11 ∧ a ≠ z + 12 ∧ a ≠ z + 13 ∧ a ≠ z + 15) M M1 ∧ (∀ j, cI M1 (z + 9) j = if j = u then 0 else cI M (z + 9) j) ∧ (∀ j, j ≠ u → cI M1 (z + 10) j = cI M (z + 10) j) ∧ (∀ j, cI M1 (z + 12) j = if j = u then 0 else cI M (z + 12) j) ∧ (∀ j, cI M1 (z + 13) j = if j = u then 0 else cI M (z + 13) j) ∧ (∀ j, cI M1 (z + 15) j = if j = u then 0 else cI M (z + 15) j) ∧ ∀ j, cI M1 (z + 11) j = if 8 * u ≤ j ∧ j < 8 * u + 8 then 0 else cI M (z + 11) j := by
  have cu : (nI u).toNatClampNeg = u := nI_clamp (by omega)
  generalize hw : cI M (z + 10) u + 1 = w
  obtain ⟨M1, f1, f2, f3, f4, f5⟩ := fill8 N (K := K) (a := z + 11) (len := 192) (lo := 8 * u) (hi := 8 * u + 8) 0 (h1.k 11 22 192 rfl) (h1.l 11 22 192 rfl (by decide)) (by decide) (by omega) N (8 * u) (wI (wI (wI (wI (wI M (z + 9) u 0) (z + 10) u w) (z + 12) u 0) (z + 13) u 0) (z + 15) u 0) (by omega) (by omega)
  refine ⟨M1, ?_, ⟨fun a ha => by rw [f2 a ha.2.2.1, cI_wI_ne _ _ _ ha.2.2.2.2.2, cI_wI_ne _ _ _ ha.2.2.2.2.1, cI_wI_ne _ _ _ ha.2.2.2.1, cI_wI_ne _ _ _ ha.2.1, cI_wI_ne _ _ _ ha.1], fun a _ => by rw [f3]; rfl, f4⟩, fun j => ?_, fun j hj => ?_, fun j => ?_, fun j => ?_, fun j => ?_, fun j => ?_⟩
  · unfold fC_X4_renew fC_J7_fill_fda19 fC_J7_rangeCheck_23922
    rw [gd_k (h1.k 8 5 0 rfl), nn_s (h1.r 8 0 9 (by decide)), gd_k (h1.k 9 22 24 rfl), h1.l 9 22 24 rfl (by decide), ck_n hu (by decide), cR_I, nn_s (h1.r 8 1 10 (by decide)), gd_k (h1.k 10 22 24 rfl), h1.l 10 22 24 rfl (by decide), ck_n hu (by decide), ck_n hu (by decide), cR_I, cR_I, nn_s (h1.r 8 3 12 (by decide)), gd_k (h1.k 12 22 24 rfl), h1.l 12 22 24 rfl (by decide), ck_n hu (by decide), cR_I, cR_I, cR_I, nn_s (h1.r 8 4 13 (by decide)), gd_k (h1.k 13 22 24 rfl), h1.l 13 22 24 rfl (by decide), ck_n hu (by decide), cR_I, cR_I, cR_I, cR_I, nn_s (h1.r 8 6 15 (by decide)), gd_k (h1.k 15 22 24 rfl), h1.l 15 22 24 rfl (by decide), ck_n hu (by decide), cR_I, cR_I, cR_I, cR_I, cR_I, nn_s (h1.r 8 2 11 (by decide)), gd_k (h1.k 11 22 192 rfl), h1.l 11 22 192 rfl (by decide), cu, cI_wI_ne _ _ _ (show z + 10 ≠ z + 9 by omega), hw]
    have e8 : nI u * (8 : Int32) = nI (8 * u) := by rw [show (8 : Int32) = nI 8 from rfl, nI_mul, Nat.mul_comm]
    have e9 : (nI u + 1) * (8 : Int32) = nI (8 * u + 8) := by rw [nI_1, show (8 : Int32) = nI 8 from rfl, nI_mul]; congr 1; omega
    rw [e8, e9, if_pos (nI_le (by omega) (by omega)), if_pos (show (0 : Int32) ≤ nI (8 * u) from nI_le (a := 0) (by omega) (by omega)), if_pos (nI_le (by omega) (by omega)), bs, f1]
    rfl
  · rw [f2 _ (by omega), cI_wI_ne _ _ _ (show z + 9 ≠ z + 15 by omega), cI_wI_ne _ _ _ (show z + 9 ≠ z + 13 by omega), cI_wI_ne _ _ _ (show z + 9 ≠ z + 12 by omega), cI_wI_ne _ _ _ (show z + 9 ≠ z + 10 by omega), cI_w]
    simp
  · rw [f2 _ (by omega), cI_wI_ne _ _ _ (show z + 10 ≠ z + 15 by omega), cI_wI_ne _ _ _ (show z + 10 ≠ z + 13 by omega), cI_wI_ne _ _ _ (show z + 10 ≠ z + 12 by omega), cI_w, if_neg (fun q => hj q.2), cI_wI_ne _ _ _ (show z + 10 ≠ z + 9 by omega)]
  · rw [f2 _ (by omega), cI_wI_ne _ _ _ (show z + 12 ≠ z + 15 by omega), cI_wI_ne _ _ _ (show z + 12 ≠ z + 13 by omega), cI_w, cI_wI_ne _ _ _ (show z + 12 ≠ z + 10 by omega), cI_wI_ne _ _ _ (show z + 12 ≠ z + 9 by omega)]
    simp
  · rw [f2 _ (by omega), cI_wI_ne _ _ _ (show z + 13 ≠ z + 15 by omega), cI_w, cI_wI_ne _ _ _ (show z + 13 ≠ z + 12 by omega), cI_wI_ne _ _ _ (show z + 13 ≠ z + 10 by omega), cI_wI_ne _ _ _ (show z + 13 ≠ z + 9 by omega)]
    simp
  · rw [f2 _ (by omega), cI_w, cI_wI_ne _ _ _ (show z + 15 ≠ z + 13 by omega), cI_wI_ne _ _ _ (show z + 15 ≠ z + 12 by omega), cI_wI_ne _ _ _ (show z + 15 ≠ z + 10 by omega), cI_wI_ne _ _ _ (show z + 15 ≠ z + 9 by omega)]
    simp
  · rw [f5 j, cI_wI_ne _ _ _ (show z + 11 ≠ z + 15 by omega), cI_wI_ne _ _ _ (show z + 11 ≠ z + 13 by omega), cI_wI_ne _ _ _ (show z + 11 ≠ z + 12 by omega), cI_wI_ne _ _ _ (show z + 11 ≠ z + 10 by omega), cI_wI_ne _ _ _ (show z + 11 ≠ z + 9 by omega)]
def rsZ (z : Nat) (M : Cm) (v : Nat) : Prop := cI M (z + 9) v = 0 ∧ cI M (z + 10) v = 0 ∧ cI M (z + 12) v = 0 ∧ cI M (z + 13) v = 0 ∧ cI M (z + 15) v = 0
theorem rs_loop (N : Nat) (hN : 192 < N) (k26 : Nat → Nat → Cm → Option Cm) (x1 : Nat) : ∀ (n u : Nat) (M : Cm), u ≤ 24 → 24 < n + u → LY z K M → (∀ v, v < u → rsZ z M v) → (∀ j, j < 8 * u → cI M (z + 11) j = 0) →
    ∃ M', lC_X4_reset_2 N K k26 n (z + 8) x1 (nI u) M = k26 (z + 8) x1 M' ∧ AgM (fun a => a ≠ z + 9 ∧ a ≠ z + 10 ∧ a ≠ z + 11 ∧ a ≠ z + 12 ∧ a ≠ z + 13 ∧ a ≠ z + 15) M M' ∧ (∀ v, v < 24 → rsZ z M' v) ∧ ∀ j, j < 192 → cI M' (z + 11) j = 0 := by
  intro n
  induction n with
  | zero => intro u M h1 h2; omega
  | succ n ih =>
    intro u M h1 h2 hLY hz hc
    rw [lC_X4_reset_2]
    by_cases hu : u < 24
    · obtain ⟨M1, m1, m2, m3, m4, m5, m6, m7, m8⟩ := rn_c hLY N hN hu
      have hL1 := hLY.sb m2
      rw [if_neg (show ¬ (24 : Int32) ≤ nI u from nI_ge (b := 24) hu (by decide)), gd_k (hLY.k 8 5 0 rfl), m1, bs, nn_s (hL1.r 8 1 10 (by decide)), gd_k (hLY.k 10 22 24 rfl), hLY.l 10 22 24 rfl (by decide), ck_n hu (by decide), nI_clamp (by omega), nI_1]
      have ag : AgM (fun a => a ≠ z + 9 ∧ a ≠ z + 10 ∧ a ≠ z + 11 ∧ a ≠ z + 12 ∧ a ≠ z + 13 ∧ a ≠ z + 15) M (wI M1 (z + 10) u 0) := ⟨fun a ha => by rw [cI_wI_ne _ _ _ ha.2.1, m2.1 a ha], fun a ha => by rw [cL_I, m2.2.1 a ha], by rw [cR_I, m2.2.2]⟩
      obtain ⟨M', a1, a2, a3, a4⟩ := ih (u + 1) (wI M1 (z + 10) u 0) (by omega) (by omega) (hLY.sb ag) (fun v hv => by
        unfold rsZ
        rw [cI_wI_ne _ _ _ (show z + 9 ≠ z + 10 by omega), cI_wI_ne _ _ _ (show z + 12 ≠ z + 10 by omega), cI_wI_ne _ _ _ (show z + 13 ≠ z + 10 by omega), cI_wI_ne _ _ _ (show z + 15 ≠ z + 10 by omega), cI_w, m3, m5, m6, m7]
        by_cases e : v = u
        · rw [if_pos e, if_pos ⟨rfl, e⟩, if_pos e, if_pos e, if_pos e]
          exact ⟨rfl, rfl, rfl, rfl, rfl⟩
        · rw [if_neg e, if_neg (fun q => e q.2), if_neg e, if_neg e, if_neg e, m4 v e]
          exact hz v (by omega)) (fun j hj => by
        rw [cI_wI_ne _ _ _ (show z + 11 ≠ z + 10 by omega), m8]
        by_cases e : 8 * u ≤ j ∧ j < 8 * u + 8
        · rw [if_pos e]
        · rw [if_neg e]; exact hc j (by omega))
      exact ⟨M', a1, ⟨fun a ha => by rw [a2.1 a ha, ag.1 a ha], fun a ha => by rw [a2.2.1 a ha, ag.2.1 a ha], by rw [a2.2.2, ag.2.2]⟩, a3, a4⟩
    · have e : u = 24 := by omega
      subst e
      rw [if_pos (show (24 : Int32) ≤ nI 24 by decide)]
      exact ⟨M, rfl, ⟨fun _ _ => rfl, fun _ _ => rfl, rfl⟩, hz, hc⟩
end RESET
