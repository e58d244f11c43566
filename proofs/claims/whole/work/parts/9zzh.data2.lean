/-! runs: HALF looks, orders, goals, statics, steps -/
section DATA2
variable {z b nd nu nh no : Nat} {M0 M M' : Cm} {S0 S S' : Ms}
def hfC (z nh : Nat) (x y w : Int32) (M : Cm) : Cm := if nh < 200 then wI (wI (wI (wI M (z + 32) (nh * 3) x) (z + 32) (nh * 3 + 1) y) (z + 32) (nh * 3 + 2) w) (z + 30) 5 (nI (nh + 1)) else wI M (z + 30) 5 (nI (nh + 1))
def hfS (nh : Nat) (x y w : Int32) (S : Ms) : Ms := if nh < 200 then pF (pA (pA (pA S 76 nh x) 77 nh y) 78 nh w) 79 (nI (nh + 1)) else pF S 79 (nI (nh + 1))
theorem hfC_o (z nh : Nat) (x y w : Int32) (M : Cm) {a : Nat} (h1 : a ≠ z + 30) (h2 : a ≠ z + 32) : cI (hfC z nh x y w M) a = cI M a := by
  unfold hfC
  split
  · rw [cI_wI_ne _ _ _ h1, cI_wI_ne _ _ _ h2, cI_wI_ne _ _ _ h2, cI_wI_ne _ _ _ h2]
  · rw [cI_wI_ne _ _ _ h1]
theorem hfC_30 (z nh : Nat) (x y w : Int32) (M : Cm) (k : Nat) : cI (hfC z nh x y w M) (z + 30) k = if k = 5 then nI (nh + 1) else cI M (z + 30) k := by
  unfold hfC
  split
  · rw [cI_w, cI_wI_ne _ _ _ (by omega), cI_wI_ne _ _ _ (by omega), cI_wI_ne _ _ _ (by omega)]; simp
  · rw [cI_w]; simp
theorem hfC_LR (z nh : Nat) (x y w : Int32) (M : Cm) : cL (hfC z nh x y w M) = cL M ∧ cR (hfC z nh x y w M) = cR M := by
  unfold hfC
  split <;> exact ⟨rfl, rfl⟩
theorem hfS_A (nh : Nat) (x y w : Int32) (S : Ms) {k : Nat} (h : k ≠ 76 ∧ k ≠ 77 ∧ k ≠ 78) : mA (hfS nh x y w S) k = mA S k := by
  unfold hfS
  split
  · rw [mA_F, mA_Ane _ _ _ h.2.2, mA_Ane _ _ _ h.2.1, mA_Ane _ _ _ h.1]
  · rfl
theorem hfS_F (nh : Nat) (x y w : Int32) (S : Ms) (k : Nat) : mF (hfS nh x y w S) k = if k = 79 then nI (nh + 1) else mF S k := by
  unfold hfS
  split <;> rw [mF_F] <;> rfl
theorem hfS_L (nh : Nat) (x y w : Int32) (S : Ms) : mL (hfS nh x y w S) = mL S := by
  unfold hfS
  split <;> rfl
theorem DD.half {x y w : Int32} (hn : nh + 1 ≤ 1000000000) (h : DD z b nd nu M0 S0 nh no M S) : DD z b nd nu M0 S0 (nh + 1) no (hfC z nh x y w M) (hfS nh x y w S) := by
  obtain ⟨sg, v1, hU, hUP, hH, hO, hE, hN, hD, hC⟩ := h
  have C : ∀ a, a ≠ z + 30 ∧ a ≠ z + 32 → cI (hfC z nh x y w M) a = cI M a := fun a ha => hfC_o z nh x y w M ha.1 ha.2
  have c30 := hfC_30 z nh x y w M
  have D : ∀ k, k ≠ 76 ∧ k ≠ 77 ∧ k ≠ 78 → mA (hfS nh x y w S) k = mA S k := fun k hk => hfS_A nh x y w S hk
  have F : ∀ k, k ≠ 79 → mF (hfS nh x y w S) k = mF S k := fun k hk => by rw [hfS_F, if_neg hk]
  refine ⟨sg.tr ⟨fun a ha => C a (by unfold stA at ha; omega), by rw [c30, if_neg (by decide)], (hfC_LR z nh x y w M).1, fun a j _ => by rw [(hfC_LR z nh x y w M).2], fun k hk => F k (by unfold stF at hk; omega), fun k hk => D k (by unfold stR at hk; omega), hfS_L nh x y w S⟩, v1.ag (by rw [C _ (by omega)]) (F _ (by decide)), hU.ag (by rw [c30, if_neg (by decide)]) (C _ (by omega)) (F _ (by decide)) ⟨D _ (by decide), D _ (by decide), D _ (by decide)⟩, hUP.ag (F _ (by decide)) (fun k hk => D k (by omega)), ?_, hO.ag (by rw [c30, if_neg (by decide)]) (C _ (by omega)) (F _ (by decide)) ⟨D _ (by decide), D _ (by decide), D _ (by decide), D _ (by decide)⟩, hE.ag ⟨C _ (by omega), C _ (by omega), C _ (by omega), C _ (by omega), C _ (by omega), C _ (by omega)⟩ ⟨D _ (by decide), D _ (by decide), D _ (by decide), D _ (by decide), D _ (by decide), D _ (by decide)⟩, ⟨hN.1.ag (fun k hk => D k (by omega)), hN.2.f2 (F _ (by decide)) (fun k hk => D k (by omega)) (fun a e q => ⟨nh + 1, by rw [hfS_F, if_pos rfl], by have := (nI_eq (by omega) (by have := hH.1; omega)).mp (e.symm.trans hH.2.2.1); omega, hn⟩) (fun a e q => ⟨a, (F 84 (by decide)).trans e, Nat.le_refl _, q⟩)⟩, hD.ag ⟨C _ (by omega), C _ (by omega)⟩ ⟨D _ (by decide), D _ (by decide)⟩, hC.ag (C _ (by omega)) ⟨D _ (by decide), D _ (by decide), D _ (by decide), D _ (by decide)⟩⟩
  obtain ⟨r1, r2, r3, r4⟩ := hH
  refine ⟨hn, by rw [c30, if_pos rfl], by rw [hfS_F, if_pos rfl], fun j hj j2 => ?_⟩
  unfold hfC hfS
  by_cases q : nh < 200
  · rw [if_pos q, if_pos q]
    have c32 : ∀ i, cI (wI (wI (wI (wI M (z + 32) (nh * 3) x) (z + 32) (nh * 3 + 1) y) (z + 32) (nh * 3 + 2) w) (z + 30) 5 (nI (nh + 1))) (z + 32) i = if i = nh * 3 + 2 then w else if i = nh * 3 + 1 then y else if i = nh * 3 then x else cI M (z + 32) i := fun i => by
      rw [cI_wI_ne _ _ _ (by omega), cI_w, cI_w, cI_w]; simp
    have d76 : mA (pF (pA (pA (pA S 76 nh x) 77 nh y) 78 nh w) 79 (nI (nh + 1))) 76 j = if j = nh then x else mA S 76 j := by
      rw [mA_F, mA_Ane _ _ _ (by decide), mA_Ane _ _ _ (by decide), mA_A]; simp
    have d77 : mA (pF (pA (pA (pA S 76 nh x) 77 nh y) 78 nh w) 79 (nI (nh + 1))) 77 j = if j = nh then y else mA S 77 j := by
      rw [mA_F, mA_Ane _ _ _ (by decide), mA_A, mA_Ane _ _ _ (by decide)]; simp
    have d78 : mA (pF (pA (pA (pA S 76 nh x) 77 nh y) 78 nh w) 79 (nI (nh + 1))) 78 j = if j = nh then w else mA S 78 j := by
      rw [mA_F, mA_A, mA_Ane _ _ _ (by decide), mA_Ane _ _ _ (by decide)]; simp
    rw [d76, d77, d78, c32, c32, c32]
    by_cases e : j = nh
    · subst e
      rw [if_pos rfl, if_pos rfl, if_pos rfl, if_neg (by omega), if_neg (by omega), if_pos rfl, if_neg (by omega), if_pos rfl, if_pos rfl]
      exact ⟨rfl, rfl, rfl⟩
    · rw [if_neg e, if_neg e, if_neg e, if_neg (by omega), if_neg (by omega), if_neg (by omega), if_neg (by omega), if_neg (by omega), if_neg (by omega), if_neg (by omega), if_neg (by omega), if_neg (by omega)]
      exact r4 j (by omega) j2
  · rw [if_neg q, if_neg q, cI_wI_ne _ _ _ (by omega), mA_F]
    exact r4 j (by omega) j2
def odC (z no : Nat) (x y v g : Int32) (M : Cm) : Cm := if no < 200 then wI (wI (wI (wI (wI M (z + 33) (no * 4) x) (z + 33) (no * 4 + 1) y) (z + 33) (no * 4 + 2) v) (z + 33) (no * 4 + 3) g) (z + 30) 6 (nI (no + 1)) else wI M (z + 30) 6 (nI (no + 1))
def odS (no : Nat) (x y v g : Int32) (S : Ms) : Ms := if no < 200 then pF (pA (pA (pA (pA S 80 no x) 81 no y) 82 no v) 83 no g) 84 (nI (no + 1)) else pF S 84 (nI (no + 1))
theorem odC_o (z no : Nat) (x y v g : Int32) (M : Cm) {a : Nat} (h1 : a ≠ z + 30) (h2 : a ≠ z + 33) : cI (odC z no x y v g M) a = cI M a := by
  unfold odC
  split
  · rw [cI_wI_ne _ _ _ h1, cI_wI_ne _ _ _ h2, cI_wI_ne _ _ _ h2, cI_wI_ne _ _ _ h2, cI_wI_ne _ _ _ h2]
  · rw [cI_wI_ne _ _ _ h1]
theorem odC_30 (z no : Nat) (x y v g : Int32) (M : Cm) (k : Nat) : cI (odC z no x y v g M) (z + 30) k = if k = 6 then nI (no + 1) else cI M (z + 30) k := by
  unfold odC
  split
  · rw [cI_w, cI_wI_ne _ _ _ (by omega), cI_wI_ne _ _ _ (by omega), cI_wI_ne _ _ _ (by omega), cI_wI_ne _ _ _ (by omega)]; simp
  · rw [cI_w]; simp
theorem odC_LR (z no : Nat) (x y v g : Int32) (M : Cm) : cL (odC z no x y v g M) = cL M ∧ cR (odC z no x y v g M) = cR M := by
  unfold odC
  split <;> exact ⟨rfl, rfl⟩
theorem odS_A (no : Nat) (x y v g : Int32) (S : Ms) {k : Nat} (h : k ≠ 80 ∧ k ≠ 81 ∧ k ≠ 82 ∧ k ≠ 83) : mA (odS no x y v g S) k = mA S k := by
  unfold odS
  split
  · rw [mA_F, mA_Ane _ _ _ h.2.2.2, mA_Ane _ _ _ h.2.2.1, mA_Ane _ _ _ h.2.1, mA_Ane _ _ _ h.1]
  · rfl
theorem odS_F (no : Nat) (x y v g : Int32) (S : Ms) (k : Nat) : mF (odS no x y v g S) k = if k = 84 then nI (no + 1) else mF S k := by
  unfold odS
  split <;> rw [mF_F] <;> rfl
theorem odS_L (no : Nat) (x y v g : Int32) (S : Ms) : mL (odS no x y v g S) = mL S := by
  unfold odS
  split <;> rfl
theorem DD.ord {x y v g : Int32} (hg : g = 0 ∨ g = 1) (hn : no + 1 ≤ 1000000000) (h : DD z b nd nu M0 S0 nh no M S) : DD z b nd nu M0 S0 nh (no + 1) (odC z no x y v g M) (odS no x y v g S) := by
  obtain ⟨sg, v1, hU, hUP, hH, hO, hE, hN, hD, hC⟩ := h
  have C : ∀ a, a ≠ z + 30 ∧ a ≠ z + 33 → cI (odC z no x y v g M) a = cI M a := fun a ha => odC_o z no x y v g M ha.1 ha.2
  have c30 := odC_30 z no x y v g M
  have D : ∀ k, k ≠ 80 ∧ k ≠ 81 ∧ k ≠ 82 ∧ k ≠ 83 → mA (odS no x y v g S) k = mA S k := fun k hk => odS_A no x y v g S hk
  have F : ∀ k, k ≠ 84 → mF (odS no x y v g S) k = mF S k := fun k hk => by rw [odS_F, if_neg hk]
  refine ⟨sg.tr ⟨fun a ha => C a (by unfold stA at ha; omega), by rw [c30, if_neg (by decide)], (odC_LR z no x y v g M).1, fun a j _ => by rw [(odC_LR z no x y v g M).2], fun k hk => F k (by unfold stF at hk; omega), fun k hk => D k (by unfold stR at hk; omega), odS_L no x y v g S⟩, v1.ag (by rw [C _ (by omega)]) (F _ (by decide)), hU.ag (by rw [c30, if_neg (by decide)]) (C _ (by omega)) (F _ (by decide)) ⟨D _ (by decide), D _ (by decide), D _ (by decide)⟩, hUP.ag (F _ (by decide)) (fun k hk => D k (by omega)), hH.ag (by rw [c30, if_neg (by decide)]) (C _ (by omega)) (F _ (by decide)) ⟨D _ (by decide), D _ (by decide), D _ (by decide)⟩, ?_, hE.ag ⟨C _ (by omega), C _ (by omega), C _ (by omega), C _ (by omega), C _ (by omega), C _ (by omega)⟩ ⟨D _ (by decide), D _ (by decide), D _ (by decide), D _ (by decide), D _ (by decide), D _ (by decide)⟩, ⟨hN.1.ag (fun k hk => D k (by omega)), hN.2.f2 (F _ (by decide)) (fun k hk => D k (by omega)) (fun a e q => ⟨a, (F 79 (by decide)).trans e, Nat.le_refl _, q⟩) (fun a e q => ⟨no + 1, by rw [odS_F, if_pos rfl], by have := (nI_eq (by omega) (by have := hO.1; omega)).mp (e.symm.trans hO.2.2.1); omega, hn⟩)⟩, hD.ag ⟨C _ (by omega), C _ (by omega)⟩ ⟨D _ (by decide), D _ (by decide)⟩, hC.ag (C _ (by omega)) ⟨D _ (by decide), D _ (by decide), D _ (by decide), D _ (by decide)⟩⟩
  obtain ⟨r1, r2, r3, r4⟩ := hO
  refine ⟨hn, by rw [c30, if_pos rfl], by rw [odS_F, if_pos rfl], fun j hj j2 => ?_⟩
  unfold odC odS
  by_cases q : no < 200
  · rw [if_pos q, if_pos q]
    have c33 : ∀ i, cI (wI (wI (wI (wI (wI M (z + 33) (no * 4) x) (z + 33) (no * 4 + 1) y) (z + 33) (no * 4 + 2) v) (z + 33) (no * 4 + 3) g) (z + 30) 6 (nI (no + 1))) (z + 33) i = if i = no * 4 + 3 then g else if i = no * 4 + 2 then v else if i = no * 4 + 1 then y else if i = no * 4 then x else cI M (z + 33) i := fun i => by
      rw [cI_wI_ne _ _ _ (by omega), cI_w, cI_w, cI_w, cI_w]; simp
    have d80 : mA (pF (pA (pA (pA (pA S 80 no x) 81 no y) 82 no v) 83 no g) 84 (nI (no + 1))) 80 j = if j = no then x else mA S 80 j := by
      rw [mA_F, mA_Ane _ _ _ (by decide), mA_Ane _ _ _ (by decide), mA_Ane _ _ _ (by decide), mA_A]; simp
    have d81 : mA (pF (pA (pA (pA (pA S 80 no x) 81 no y) 82 no v) 83 no g) 84 (nI (no + 1))) 81 j = if j = no then y else mA S 81 j := by
      rw [mA_F, mA_Ane _ _ _ (by decide), mA_Ane _ _ _ (by decide), mA_A, mA_Ane _ _ _ (by decide)]; simp
    have d82 : mA (pF (pA (pA (pA (pA S 80 no x) 81 no y) 82 no v) 83 no g) 84 (nI (no + 1))) 82 j = if j = no then v else mA S 82 j := by
      rw [mA_F, mA_Ane _ _ _ (by decide), mA_A, mA_Ane _ _ _ (by decide), mA_Ane _ _ _ (by decide)]; simp
    have d83 : mA (pF (pA (pA (pA (pA S 80 no x) 81 no y) 82 no v) 83 no g) 84 (nI (no + 1))) 83 j = if j = no then g else mA S 83 j := by
      rw [mA_F, mA_A, mA_Ane _ _ _ (by decide), mA_Ane _ _ _ (by decide), mA_Ane _ _ _ (by decide)]; simp
    rw [d80, d81, d82, d83, c33, c33, c33, c33]
    by_cases e : j = no
    · subst e
      rw [if_pos rfl, if_pos rfl, if_pos rfl, if_pos rfl, if_neg (by omega), if_neg (by omega), if_neg (by omega), if_pos rfl, if_neg (by omega), if_neg (by omega), if_pos rfl, if_neg (by omega), if_pos rfl, if_pos rfl]
      exact ⟨rfl, rfl, rfl, rfl, hg⟩
    · rw [if_neg e, if_neg e, if_neg e, if_neg e]
      rw [if_neg (by omega), if_neg (by omega), if_neg (by omega), if_neg (by omega), if_neg (by omega), if_neg (by omega), if_neg (by omega), if_neg (by omega), if_neg (by omega), if_neg (by omega), if_neg (by omega), if_neg (by omega), if_neg (by omega), if_neg (by omega), if_neg (by omega), if_neg (by omega)]
      exact r4 j (by omega) j2
  · rw [if_neg q, if_neg q, cI_wI_ne _ _ _ (by omega), mA_F]
    exact r4 j (by omega) j2
theorem DD.goal {d a : Nat} (hd : d < nd) (ha : a ≤ 999999999) (h : DD z b nd nu M0 S0 nh no M S) : DD z b nd nu M0 S0 nh no (wI M (z + 18) d (nI a)) (pA S 62 d (nI a)) := by
  obtain ⟨sg, v1, hU, hUP, hH, hO, hE, hN, hD, hC⟩ := h
  have C : ∀ x, x ≠ z + 18 → cI (wI M (z + 18) d (nI a)) x = cI M x := fun x hx => cI_wI_ne _ _ _ hx
  have D : ∀ k, k ≠ 62 → mA (pA S 62 d (nI a)) k = mA S k := fun k hk => mA_Ane _ _ _ hk
  refine ⟨(sg.wI (by unfold stA; omega)).pA (by unfold stR; omega), v1.ag (by rw [C _ (by omega)]) rfl, hU.ag (by rw [C _ (by omega)]) (C _ (by omega)) rfl ⟨D _ (by decide), D _ (by decide), D _ (by decide)⟩, hUP.ag (by rfl) (fun k hk => D k (by omega)), hH.ag (by rw [C _ (by omega)]) (C _ (by omega)) rfl ⟨D _ (by decide), D _ (by decide), D _ (by decide)⟩, hO.ag (by rw [C _ (by omega)]) (C _ (by omega)) rfl ⟨D _ (by decide), D _ (by decide), D _ (by decide), D _ (by decide)⟩, hE.ag ⟨C _ (by omega), C _ (by omega), C _ (by omega), C _ (by omega), C _ (by omega), C _ (by omega)⟩ ⟨D _ (by decide), D _ (by decide), D _ (by decide), D _ (by decide), D _ (by decide), D _ (by decide)⟩, hN.ag (S := S) (fun _ _ => by rfl) (fun k hk => D k (by omega)), fun x hx => ?_, hC.ag (C _ (by omega)) ⟨D _ (by decide), D _ (by decide), D _ (by decide), D _ (by decide)⟩⟩
  obtain ⟨b1, b2, b3, b4⟩ := hD x hx
  rw [C (z + 17) (by omega), D 61 (by decide), cI_w, mA_A]
  by_cases e : x = d
  · subst e
    rw [if_pos ⟨rfl, rfl⟩, if_pos ⟨rfl, rfl⟩]
    exact ⟨b1, rfl, b3, a, ha, rfl⟩
  · rw [if_neg (fun q => e q.2), if_neg (fun q => e q.2)]
    exact ⟨b1, b2, b3, b4⟩
theorem DD.sto {u s r : Nat} {v : Int32} (hu : u < nu) (hs : SLs S b u s 0) (hr : r < 8) (h29 : mA S 29 (sl8 b u s) = nI r) (hi : ∀ s', SLs S b u s' 0 → mA S 29 (sl8 b u s') = nI r → s' = s) (h : DD z b nd nu M0 S0 nh no M S) : DD z b nd nu M0 S0 nh no (wI M (z + 11) (8 * u + r) v) (pA S 56 (8 * u + s) v) := by
  obtain ⟨sg, v1, hU, hUP, hH, hO, hE, hN, hD, hC⟩ := h
  have C : ∀ x, x ≠ z + 11 → cI (wI M (z + 11) (8 * u + r) v) x = cI M x := fun x hx => cI_wI_ne _ _ _ hx
  have D : ∀ k, k ≠ 56 → mA (pA S 56 (8 * u + s) v) k = mA S k := fun k hk => mA_Ane _ _ _ hk
  refine ⟨(sg.wI (by unfold stA; omega)).pA (by unfold stR; omega), v1.ag (by rw [C _ (by omega)]) rfl, hU.ag (by rw [C _ (by omega)]) (C _ (by omega)) rfl ⟨D _ (by decide), D _ (by decide), D _ (by decide)⟩, hUP.ag (by rfl) (fun k hk => D k (by omega)), hH.ag (by rw [C _ (by omega)]) (C _ (by omega)) rfl ⟨D _ (by decide), D _ (by decide), D _ (by decide)⟩, hO.ag (by rw [C _ (by omega)]) (C _ (by omega)) rfl ⟨D _ (by decide), D _ (by decide), D _ (by decide), D _ (by decide)⟩, hE.ag ⟨C _ (by omega), C _ (by omega), C _ (by omega), C _ (by omega), C _ (by omega), C _ (by omega)⟩ ⟨D _ (by decide), D _ (by decide), D _ (by decide), D _ (by decide), D _ (by decide), D _ (by decide)⟩, hN.ag (S := S) (fun _ _ => by rfl) (fun k hk => D k (by omega)), hD.ag ⟨C _ (by omega), C _ (by omega)⟩ ⟨D _ (by decide), D _ (by decide)⟩, fun x s' r' hx hs' hr' h29' => ?_⟩
  have hs2 : SLs S b x s' 0 := by
    unfold SLs at hs' ⊢
    rw [D 25 (by decide), D 27 (by decide)] at hs'
    exact hs'
  rw [D 29 (by decide)] at h29'
  have k8 : s' < 8 := by obtain ⟨⟨ni, q1, -, q3⟩, -⟩ := hs2; omega
  have s8 : s < 8 := by obtain ⟨⟨ni, q1, -, q3⟩, -⟩ := hs; omega
  rw [cI_w, mA_A]
  by_cases e : x = u ∧ s' = s
  · obtain ⟨e1, e2⟩ := e
    subst e1; subst e2
    have : r' = r := (nI_eq (by omega) (by omega)).mp (h29'.symm.trans h29)
    rw [if_pos ⟨rfl, by omega⟩, if_pos ⟨rfl, rfl⟩]
  · rw [if_neg (show ¬ (56 = 56 ∧ 8 * x + s' = 8 * u + s) by omega), if_neg (fun q => ?_)]
    · exact hC x s' r' hx hs2 hr' h29'
    · have e1 : x = u := by omega
      subst e1
      have e2 : r' = r := by omega
      subst e2
      exact e ⟨rfl, hi s' hs2 h29'⟩
theorem DD.stp {s : Nat} (hs : s + 1 ≤ 100000) (h : DD z b nd nu M0 S0 nh no M S) : DD z b nd nu M0 S0 nh no (wI M (z + 35) 11 (nI (s + 1))) (pF S 65 (nI (s + 1))) := by
  obtain ⟨sg, v1, hU, hUP, hH, hO, hE, hN, hD, hC⟩ := h
  have C : ∀ x, x ≠ z + 35 → cI (wI M (z + 35) 11 (nI (s + 1))) x = cI M x := fun x hx => cI_wI_ne _ _ _ hx
  have F : ∀ k, k ≠ 65 → mF (pF S 65 (nI (s + 1))) k = mF S k := fun k hk => by rw [mF_F, if_neg hk]
  exact ⟨(sg.wI (by unfold stA; omega)).pF (by unfold stF; omega), ⟨s + 1, hs, by rw [cI_w, if_pos ⟨rfl, rfl⟩], by rw [mF_F, if_pos rfl]⟩, hU.ag (by rw [C _ (by omega)]) (C _ (by omega)) (F _ (by decide)) ⟨rfl, rfl, rfl⟩, hUP.ag (F _ (by decide)) (fun k hk => rfl), hH.ag (by rw [C _ (by omega)]) (C _ (by omega)) (F _ (by decide)) ⟨rfl, rfl, rfl⟩, hO.ag (by rw [C _ (by omega)]) (C _ (by omega)) (F _ (by decide)) ⟨rfl, rfl, rfl, rfl⟩, hE.ag ⟨C _ (by omega), C _ (by omega), C _ (by omega), C _ (by omega), C _ (by omega), C _ (by omega)⟩ ⟨rfl, rfl, rfl, rfl, rfl, rfl⟩, hN.ag (fun k hk => F k (by omega)) (fun k hk => rfl), hD.ag ⟨C _ (by omega), C _ (by omega)⟩ ⟨rfl, rfl⟩, hC.ag (C _ (by omega)) ⟨rfl, rfl, rfl, rfl⟩⟩
end DATA2
