/-! a new reference, and all behind the law's constructors -/
def al9 : List (Nat × Nat × Nat) := al9a ++ al9b
def ixM (k : Nat) : Nat := al9.findIdx (fun c => c.1 == k)
theorem al9_ix : ∀ k, k < 108 → (srt k = 1 ∨ srt k = 2 ∨ srt k = 3) → al9[ixM k]? = some (k, kS k, lnM k) := by decide +kernel
theorem al9_str : ∀ k, k < 108 → srt k ≠ 0 → k ≠ 9 → (srt k = 1 ∨ srt k = 2 ∨ srt k = 3) := by decide +kernel
theorem isR_lt {k : Nat} (h : isR k) : k < 108 := by
  by_cases hk : k < 108
  · exact hk
  · exfalso
    have e : srt k = 9 := by
      unfold srt
      rw [List.getD_eq_getElem?_getD, List.getElem?_eq_none_iff.mpr (by simp; omega)]
      rfl
    unfold isR at h
    rw [e] at h
    revert h
    decide
theorem f_X9 (N : Nat) (sa : Nat → Nat) (x0 : Nat) (K : Ka) (M : Cm) (hk : kd K x0 = 10) (hz : kz K = x0 + 1) (h0 : ∀ j, cI M x0 j = 0) (hN : 136 < N) : ∃ (K' : Ka) (M' : Cm), fT_X9_init N sa x0 K M = some (.inl (K', M')) ∧ kz K' = x0 + 73 ∧ ku K' = ku K + 100166 ∧ (∀ a, a ≤ x0 → kd K' a = kd K a ∧ le K' a = le K a) ∧ (∀ a, a < x0 → cI M' a = cI M a ∧ cL M' a = cL M a ∧ cR M' a = cR M a) ∧
    (∀ i c, al9[i]? = some c → kd K' (x0 + 1 + i) = c.2.1 ∧ le K' (x0 + 1 + i) = c.2.2 ∧ cR M' x0 c.1 = some (x0 + 1 + i)) ∧ cR M' x0 9 = some (sa 0) ∧ (∀ a j, x0 ≤ a → a < x0 + 73 → cI M' a j = 0) ∧ ∀ j, cL M' (x0 + 5) j = kwT j := by
  rw [e_X9_init N sa x0 K M ⟨hk, by omega⟩]
  unfold mk9
  have A := Bd_mk (x0 := x0) (al := al9a) (K := K) (M := M) (by omega) (by decide)
  have A0 : ∀ j, cI (mk x0 al9a (K, M)).2 x0 j = 0 := fun j => (mk_I x0 al9a (K, M) x0 j (by show x0 < kz K; omega)).trans (h0 j)
  generalize mk x0 al9a (K, M) = qa at A A0 ⊢
  obtain ⟨Ka', Ma⟩ := qa
  dsimp only at A A0 ⊢
  obtain ⟨a1, a2, a3, a4, a5, a6, a7⟩ := A
  have la : al9a.length = 4 := rfl
  rw [la] at a1
  have B := Bd_mk (x0 := x0) (al := al9b) (K := Ka') (M := wR Ma x0 9 (some (sa 0))) (by omega) (by decide)
  have B0 : ∀ j, cI (mk x0 al9b (Ka', wR Ma x0 9 (some (sa 0)))).2 x0 j = 0 := fun j => (mk_I x0 al9b (Ka', wR Ma x0 9 (some (sa 0))) x0 j (by show x0 < kz Ka'; omega)).trans (A0 j)
  have BL : ∀ j, cL (mk x0 al9b (Ka', wR Ma x0 9 (some (sa 0)))).2 (x0 + 5) j = 0 := fun j => mk_L0 x0 al9b (Ka', wR Ma x0 9 (some (sa 0))) (x0 + 5) j (by show kz Ka' ≤ x0 + 5; omega) (by show x0 + 5 < kz Ka' + 68; omega)
  generalize mk x0 al9b (Ka', wR Ma x0 9 (some (sa 0))) = qb at B B0 BL ⊢
  obtain ⟨Kb, Mb⟩ := qb
  dsimp only at B B0 BL ⊢
  obtain ⟨b1, b2, b3, b4, b5, b6, b7⟩ := B
  have lb : al9b.length = 68 := rfl
  rw [lb] at b1
  have r10 := b4 0 (10, 23, 26) rfl
  have e5 : kz Ka' + 0 = x0 + 5 := by omega
  rw [e5] at r10
  have kx : kd Kb x0 = 10 := ((b3 x0 (by omega)).1).trans (((a3 x0 (by omega)).1).trans hk)
  obtain ⟨M', g1, g2, g3, g4, g5⟩ := i9_loop N sa Kb x0 (x0 + 5) kx r10.1 r10.2.1 N 0 Mb (by omega) (by omega) r10.2.2 (fun j => BL j)
  have sa_ : (al9a.map (fun c => c.2.2)).sum = 16006 := by decide
  have sb_ : (al9b.map (fun c => c.2.2)).sum = 84160 := by decide
  rw [sa_] at a2
  rw [sb_] at b2
  refine ⟨Kb, M', g1, by omega, by omega, fun a ha => ?_, fun a ha => ?_, fun i c hc => ?_, ?_, fun a j h1 h2 => ?_, g5⟩
  · rw [(b3 a (by omega)).1, (b3 a (by omega)).2]
    exact a3 a (by omega)
  · rw [g2, g3, g4 a (by omega)]
    obtain ⟨p1, p2, p3⟩ := b5 a (by omega) (by omega)
    obtain ⟨q1, q2, q3⟩ := a5 a (by omega) (by omega)
    exact ⟨p1.trans q1, p2.trans q2, p3.trans ((cR_wR_ne _ _ _ (by omega)).trans q3)⟩
  · rw [g3]
    unfold al9 at hc
    by_cases hi : i < 4
    · rw [List.getElem?_append_left (by rw [la]; exact hi)] at hc
      obtain ⟨p1, p2, p3⟩ := a4 i c hc
      have e : kz K + i = x0 + 1 + i := by omega
      rw [e] at p1 p2 p3
      have hm : c ∈ al9a := List.mem_of_getElem? hc
      refine ⟨((b3 _ (by omega)).1).trans p1, ((b3 _ (by omega)).2).trans p2, ?_⟩
      have hall : ∀ c ∈ al9a, c.1 ≠ 9 ∧ ∀ c' ∈ al9b, c'.1 ≠ c.1 := by decide
      have hc9 := hall c hm
      rw [b7 c.1 hc9.2, cR_w, if_neg (fun z => hc9.1 z.2)]
      exact p3
    · rw [List.getElem?_append_right (by rw [la]; omega), la] at hc
      obtain ⟨p1, p2, p3⟩ := b4 (i - 4) c hc
      have e : kz Ka' + (i - 4) = x0 + 1 + i := by omega
      rw [e] at p1 p2 p3
      exact ⟨p1, p2, p3⟩
  · rw [g3, b7 9 (by decide), cR_w, if_pos ⟨rfl, rfl⟩]
  · rw [g2]
    by_cases ha : a = x0
    · rw [ha]; exact B0 j
    · by_cases hb : a < x0 + 5
      · rw [(b5 a (by omega) ha).1]
        show cI Ma a j = 0
        exact a6 a j (by omega) (by rw [la]; omega)
      · exact b6 a j (by omega) (by rw [lb]; omega)
/-- how all stands behind the constructors -/
def IN (z : Nat) (K : Ka) (M : Cm) (S : Ms) : Prop :=
  LY z K M ∧ (∀ t ∈ ([(1, 5), (1, 6), (8, 10), (8, 11), (19, 10), (19, 11), (30, 4), (30, 5), (30, 6), (30, 7), (35, 11), (0, 8), (0, 9), (0, 10), (0, 11), (0, 12), (89, 10), (89, 11), (89, 12), (89, 13)] : List (Nat × Nat)), cI M (z + t.1) t.2 = 0) ∧ (∀ i, 9 ≤ i → i ≤ 18 → ∀ j, cI M (z + i) j = 0) ∧ (∀ j, cL M (z + 6) j = kwT j) ∧ cR M z 7 = some (z + 89) ∧ kd K (z + 89) = 6 ∧ (∀ i c, (al5 0)[i]? = some c → kd K (z + 90 + i) = c.2.1 ∧ le K (z + 90 + i) = c.2.2 ∧ cR M (z + 89) c.1 = some (z + 90 + i)) ∧ kz K = z + 174 ∧ ku K ≤ 140000 ∧ kd K (z + 173) = 23 ∧ le K (z + 173) = 1 ∧
  (∀ k, mF S k = 0) ∧ (∀ k j, isR k → mA S k j = 0) ∧ ∀ j, mL S 10 j = kwT j
theorem start {N : Nat} (hN : 136 < N) (z : Nat) (sa : Nat → Nat) : ∃ (K : Ka) (M : Cm), fInit N sa z = some (K, M, z + 100, z + 173) ∧ spl (z + 100) (z + 173) K M ∧ rmOK (K00 z) K = true ∧ IN z (kCut (z + 100) (z + 173) K) M (sOf (z + 100) M) := by
  obtain ⟨K1, M1, e1, c1, c2, c3, c4, c5, c6, c7, c8, c9⟩ := f_X8 N z hN
  obtain ⟨K2, M2, e2, d1, d2, d3, d4, d5, d6, d7, d8⟩ := f_X9 N sa (kz K1) (kNew K1 10 0 (cN 9)) (mZ M1 (kz K1)) (kd_new _ _ _ _) (by rw [kz_n]) (fun j => by rw [cI_mZs]) hN
  rw [c1] at d1 d3 d4 d5 d6 d7 d8
  have z2 : kz K2 = z + 173 := by omega
  have ok2 : ∀ a, a < z + 100 → kd K2 a = kd K1 a ∧ le K2 a = le K1 a := fun a ha => by
    rw [(d3 a (by omega)).1, (d3 a (by omega)).2, kd_newo _ _ _ _ (by omega), le_newo _ _ _ _ (by omega)]
    exact ⟨rfl, rfl⟩
  have om2 : ∀ a, a < z + 100 → cI M2 a = cI M1 a ∧ cL M2 a = cL M1 a ∧ cR M2 a = cR M1 a := fun a ha => by
    obtain ⟨q1, q2, q3⟩ := d4 a ha
    exact ⟨q1.trans (cI_mZ _ (by omega)), q2.trans (cL_mZ _ (by omega)), q3.trans (cR_mZ _ (by omega))⟩
  have hI : fInit N sa z = some (kNew K2 23 1 1, mZ M2 (kz K2), z + 100, z + 173) := by
    unfold fInit
    rw [e1]
    show (inlO (fT_X9_init N sa (kz K1) (kNew K1 10 0 (cN 9)) (mZ M1 (kz K1)))).bind _ = _
    rw [e2]
    show some (kNew K2 23 1 1, mZ M2 (kz K2), kz K1, kz K2) = _
    rw [c1, z2]
  have K3 : ∀ a, a < z + 173 → kd (kNew K2 23 1 1) a = kd K2 a ∧ le (kNew K2 23 1 1) a = le K2 a := fun a ha => ⟨kd_newo _ _ _ _ (by omega), le_newo _ _ _ _ (by omega)⟩
  have M3 : ∀ a, a < z + 173 → cI (mZ M2 (kz K2)) a = cI M2 a ∧ cL (mZ M2 (kz K2)) a = cL M2 a ∧ cR (mZ M2 (kz K2)) a = cR M2 a := fun a ha => ⟨cI_mZ _ (by omega), cL_mZ _ (by omega), cR_mZ _ (by omega)⟩
  have cut : ∀ a, (a < z + 100 ∨ z + 173 ≤ a) → kd (kCut (z + 100) (z + 173) (kNew K2 23 1 1)) a = kd (kNew K2 23 1 1) a ∧ le (kCut (z + 100) (z + 173) (kNew K2 23 1 1)) a = le (kNew K2 23 1 1) a := fun a ha => by
    have hc : ¬ (z + 100 ≤ a ∧ a < z + 173) := by omega
    exact ⟨by simp [kd, kCut, hc], by simp [le, kCut, hc]⟩
  have kK : ∀ a, a < z + 100 → kd (kCut (z + 100) (z + 173) (kNew K2 23 1 1)) a = kd K1 a ∧ le (kCut (z + 100) (z + 173) (kNew K2 23 1 1)) a = le K1 a := fun a ha => by
    rw [(cut a (Or.inl ha)).1, (cut a (Or.inl ha)).2, (K3 a (by omega)).1, (K3 a (by omega)).2]
    exact ok2 a ha
  have mM : ∀ a, a < z + 100 → cI (mZ M2 (kz K2)) a = cI M1 a ∧ cL (mZ M2 (kz K2)) a = cL M1 a ∧ cR (mZ M2 (kz K2)) a = cR M1 a := fun a ha => by
    rw [(M3 a (by omega)).1, (M3 a (by omega)).2.1, (M3 a (by omega)).2.2]
    exact om2 a ha
  have rM : ∀ k, isR k → ∃ i, i < 72 ∧ al9[i]? = some (k, kS k, lnM k) ∧ cR (mZ M2 (kz K2)) (z + 100) k = some (z + 101 + i) := fun k hk => by
    have h9 := al9_ix k (isR_lt hk) hk
    have hl : ixM k < 72 := (List.getElem?_eq_some_iff.mp h9).1
    refine ⟨ixM k, hl, h9, ?_⟩
    rw [(M3 (z + 100) (by omega)).2.2]
    exact (d5 _ _ h9).2.2
  have hku : ku (kNew K2 23 1 1) ≤ 140000 := by
    rw [ku_n, d2, ku_n]
    have c9 : cN 9 = 108 := rfl
    omega
  have hIN : IN z (kCut (z + 100) (z + 173) (kNew K2 23 1 1)) (mZ M2 (kz K2)) (sOf (z + 100) (mZ M2 (kz K2))) := by
    refine ⟨⟨fun i c hc => ?_, fun t ht => ?_, fun k hk => ?_, ?_, ?_⟩, fun t ht => ?_, fun i h1 h2 j => ?_, fun j => ?_, ?_, ?_, fun i c hc => ?_, by show kz K2 + 1 = z + 174; omega, hku, ?_, ?_, fun k => ?_, fun k j hk => ?_, fun j => ?_⟩
    · have hi : i < 38 := (List.getElem?_eq_some_iff.mp hc).1
      rw [(kK (z + i) (by omega)).1, (kK (z + i) (by omega)).2]
      exact c3.1 i c hc
    · have h9 : t.1 < 100 := by revert t; decide
      rw [(mM (z + t.1) (by omega)).2.2]
      exact c3.2.1 t ht
    · rw [(mM (z + 36) (by omega)).2.2, (mM (z + 38 + 2 * k) (by omega)).2.2, (kK (z + 38 + 2 * k) (by omega)).1, (kK (z + 38 + 2 * k + 1) (by omega)).1, (kK (z + 38 + 2 * k + 1) (by omega)).2]
      exact c3.2.2.1 k hk
    · rw [(kK (z + 88) (by omega)).1]; exact c3.2.2.2.1
    · rw [(kK (z + 88) (by omega)).2]; exact c3.2.2.2.2
    · have h9 : t.1 < 100 := by revert t; decide
      rw [(mM (z + t.1) (by omega)).1]
      exact c4 t ht
    · rw [(mM (z + i) (by omega)).1]
      exact c5 i h1 h2 j
    · rw [(mM (z + 6) (by omega)).2.1]
      exact c6 j
    · rw [(mM z (by omega)).2.2]; exact c7
    · rw [(kK (z + 89) (by omega)).1]; exact c8
    · have hi : i < 10 := (List.getElem?_eq_some_iff.mp hc).1
      rw [(kK (z + 90 + i) (by omega)).1, (kK (z + 90 + i) (by omega)).2, (mM (z + 89) (by omega)).2.2]
      exact c9 i c hc
    · rw [(cut (z + 173) (Or.inr (Nat.le_refl _))).1, kd_n, if_pos z2.symm]
    · rw [(cut (z + 173) (Or.inr (Nat.le_refl _))).2, le_n, if_pos z2.symm]
    · show cI (mZ M2 (kz K2)) (z + 100) k = 0
      rw [(M3 (z + 100) (by omega)).1]
      exact d7 (z + 100) k (Nat.le_refl _) (by omega)
    · obtain ⟨i, hi, -, hr⟩ := rM k hk
      show cI (mZ M2 (kz K2)) ((cR (mZ M2 (kz K2)) (z + 100) k).getD 0) j = 0
      rw [hr]
      show cI (mZ M2 (kz K2)) (z + 101 + i) j = 0
      rw [(M3 (z + 101 + i) (by omega)).1]
      exact d7 _ j (by omega) (by omega)
    · obtain ⟨i, hi, h9, hr⟩ := rM 10 (Or.inr (Or.inl (by decide)))
      have e10 : (10 : Nat) = 10 := rfl
      show cL (mZ M2 (kz K2)) ((cR (mZ M2 (kz K2)) (z + 100) 10).getD 0) j = kwT j
      have hr2 : cR (mZ M2 (kz K2)) (z + 100) 10 = some (z + 105) := by
        rw [(M3 (z + 100) (by omega)).2.2]
        exact (d5 4 (10, 23, 26) (by decide)).2.2
      rw [hr2]
      show cL (mZ M2 (kz K2)) (z + 105) j = kwT j
      rw [(M3 (z + 105) (by omega)).2.1]
      exact d8 j
  refine ⟨kNew K2 23 1 1, mZ M2 (kz K2), hI, ⟨?_, fun k hk hs => ?_, fun k hk => ?_, fun k j hk hj e => ?_, by omega, by rw [kz_n]; omega⟩, ?_, hIN⟩
  · rw [(K3 (z + 100) (by omega)).1, (d3 (z + 100) (Nat.le_refl _)).1, kd_n, if_pos c1.symm]
  · by_cases h9 : k = 9
    · subst h9
      exact ⟨sa 0, by rw [(M3 (z + 100) (by omega)).2.2]; exact d6⟩
    · obtain ⟨i, hi, -, hr⟩ := rM k (al9_str k hk hs h9)
      exact ⟨_, hr⟩
  · obtain ⟨i, hi, h9, hr⟩ := rM k hk
    obtain ⟨p1, p2, -⟩ := d5 i _ h9
    have e : z + 100 + 1 + i = z + 101 + i := by omega
    rw [e] at p1 p2
    refine ⟨z + 101 + i, hr, ((K3 _ (by omega)).1).trans p1, ((K3 _ (by omega)).2).trans p2, by omega, by omega⟩
  · obtain ⟨i, hi, h9, hr⟩ := rM k hk
    obtain ⟨i', hi', h9', hr'⟩ := rM j hj
    rw [hr, hr'] at e
    have e2 : i = i' := by have := Option.some.inj e; omega
    subst e2
    have e3 := Option.some.inj (h9.symm.trans h9')
    exact congrArg Prod.fst e3
  · unfold rmOK
    apply decide_eq_true
    constructor
    · show kz K2 + 1 - z ≤ 601024
      omega
    · have : ku (K00 z) = 0 := rfl
      omega
