/-! what a constructor leaves: rows al for the fields of x0 -/
def Bd (x0 : Nat) (al : List (Nat × Nat × Nat)) (K : Ka) (M : Cm) (K' : Ka) (M' : Cm) : Prop :=
  kz K' = kz K + al.length ∧ ku K' = ku K + (al.map (fun c => c.2.2)).sum ∧ (∀ a, a < kz K → kd K' a = kd K a ∧ le K' a = le K a) ∧ (∀ i c, al[i]? = some c → kd K' (kz K + i) = c.2.1 ∧ le K' (kz K + i) = c.2.2 ∧ cR M' x0 c.1 = some (kz K + i)) ∧ (∀ a, a < kz K → a ≠ x0 → cI M' a = cI M a ∧ cL M' a = cL M a ∧ cR M' a = cR M a) ∧ (∀ a j, kz K ≤ a → a < kz K + al.length → cI M' a j = 0) ∧ (∀ k, (∀ c ∈ al, c.1 ≠ k) → cR M' x0 k = cR M x0 k)
theorem Bd_mk {x0 : Nat} {al : List (Nat × Nat × Nat)} {K : Ka} {M : Cm} (hx : x0 < kz K) (hn : (al.map (fun c => c.1)).Nodup) : Bd x0 al K M (mk x0 al (K, M)).1 (mk x0 al (K, M)).2 := by
  refine ⟨mk_kz x0 al (K, M), mk_ku x0 al (K, M), fun a ha => mk_old x0 al (K, M) a ha, fun i c hc => ?_, fun a ha hne => ⟨?_, ?_, ?_⟩, fun a j h1 h2 => mk_I0 x0 al (K, M) a j h1 h2, fun k hk => mk_R x0 al (K, M) x0 k hx (fun _ => hk)⟩
  · obtain ⟨h1, h2⟩ := mk_new x0 al (K, M) i c hc
    exact ⟨h1, h2, mk_Rn x0 al (K, M) hx hn i c hc⟩
  · funext j; exact mk_I x0 al (K, M) a j ha
  · funext j; exact mk_L x0 al (K, M) a j ha
  · funext j; exact mk_R x0 al (K, M) a j ha (fun e => absurd e hne)
theorem Bd.wI {x0 : Nat} {al : List (Nat × Nat × Nat)} {K : Ka} {M : Cm} {K' : Ka} {M' : Cm} (h : Bd x0 al K M K' M') (hx : x0 < kz K) (k : Nat) (v : Int32) : Bd x0 al K M K' (wI M' x0 k v) := by
  obtain ⟨h1, h2, h3, h4, h5, h6, h7⟩ := h
  refine ⟨h1, h2, h3, h4, fun a ha hne => ⟨(cI_wI_ne M' k v hne).trans (h5 a ha hne).1, (h5 a ha hne).2.1, (h5 a ha hne).2.2⟩, fun a j g1 g2 => ?_, h7⟩
  have hne : a ≠ x0 := by omega
  rw [cI_wI_ne M' k v hne]
  exact h6 a j g1 g2
theorem Bd.keep {x0 : Nat} {al : List (Nat × Nat × Nat)} {K : Ka} {M : Cm} {K' : Ka} {M' M'' : Cm} (h : Bd x0 al K M K' M') {b : Nat} (hb : kz K ≤ b) (h1 : cI M'' = cI M') (h2 : cR M'' = cR M') (h3 : ∀ a, a ≠ b → cL M'' a = cL M' a) : Bd x0 al K M K' M'' := by
  obtain ⟨g1, g2, g3, g4, g5, g6, g7⟩ := h
  refine ⟨g1, g2, g3, fun i c hc => ?_, fun a ha hne => ?_, fun a j z1 z2 => ?_, fun k hk => ?_⟩
  · rw [h2]; exact g4 i c hc
  · rw [h1, h2, h3 a (by omega)]; exact g5 a ha hne
  · rw [h1]; exact g6 a j z1 z2
  · rw [h2]; exact g7 k hk
theorem f_X4 (N x0 : Nat) (K : Ka) (M : Cm) (hk : kd K x0 = 5 ∧ x0 < kz K) : ∃ (K' : Ka) (M' : Cm), fT_X4_init N x0 K M = some (.inl (K', M')) ∧ Bd x0 al4 K M K' M' ∧ cI M' x0 10 = 0 ∧ cI M' x0 11 = 0 := by
  refine ⟨_, _, e_X4_init N x0 K M hk, ((Bd_mk hk.2 (by decide)).wI hk.2 _ _).wI hk.2 _ _, ?_, ?_⟩
  · simp only [cI_w]; simp
  · simp only [cI_w]; simp
theorem f_X0 (N x0 : Nat) (K : Ka) (M : Cm) (hk : kd K x0 = 1 ∧ x0 < kz K) : ∃ (K' : Ka) (M' : Cm), fT_X0_init N x0 K M = some (.inl (K', M')) ∧ Bd x0 al0 K M K' M' ∧ cI M' x0 4 = 0 ∧ cI M' x0 5 = 0 ∧ cI M' x0 6 = 0 ∧ cI M' x0 7 = 0 := by
  refine ⟨_, _, e_X0_init N x0 K M hk, ((((Bd_mk hk.2 (by decide)).wI hk.2 _ _).wI hk.2 _ _).wI hk.2 _ _).wI hk.2 _ _, ?_, ?_, ?_, ?_⟩
  · simp only [cI_w]; simp
  · simp only [cI_w]; simp
  · simp only [cI_w]; simp
  · simp only [cI_w]; simp
theorem f_X1 (N x0 : Nat) (K : Ka) (M : Cm) (hk : kd K x0 = 2 ∧ x0 < kz K) : ∃ (K' : Ka) (M' : Cm), fT_X1_init N x0 K M = some (.inl (K', M')) ∧ Bd x0 al1 K M K' M' := ⟨_, _, e_X1_init N x0 K M hk, (((((Bd_mk hk.2 (by decide)).wI hk.2 _ _).wI hk.2 _ _).wI hk.2 _ _).wI hk.2 _ _).wI hk.2 _ _⟩
theorem f_X6 (N x0 : Nat) (K : Ka) (M : Cm) (hk : kd K x0 = 7 ∧ x0 < kz K) (hN : 136 < N) : ∃ (K' : Ka) (M' : Cm), fT_X6_init N x0 K M = some (.inl (K', M')) ∧ Bd x0 al6 K M K' M' ∧ cI M' x0 5 = 0 ∧ cI M' x0 6 = 0 ∧ ∀ j, cL M' (kz K + 4) j = kwT j := by
  have hB := ((Bd_mk (K := K) (M := M) (al := al6) hk.2 (by decide)).wI hk.2 5 0).wI hk.2 6 0
  rw [e_X6_init N x0 K M hk]
  obtain ⟨k1, k2, k3⟩ := hB.2.2.2.1 4 (4, 23, 25) rfl
  have hx : kd (mk x0 al6 (K, M)).1 x0 = 7 := (hB.2.2.1 x0 hk.2).1.trans hk.1
  obtain ⟨M', g1, g2, g3, g4, g5⟩ := i6_loop N (mk x0 al6 (K, M)).1 x0 (kz K + 4) hx k1 k2 N 0 _ (by omega) (by omega) k3 (fun j => by
    show cL (mk x0 al6 (K, M)).2 (kz K + 4) j = 0
    exact mk_L0 x0 al6 (K, M) _ j (by show kz K ≤ kz K + 4; omega) (by show kz K + 4 < kz K + 5; omega))
  refine ⟨_, M', g1, hB.keep (b := kz K + 4) (by omega) g2 g3 g4, ?_, ?_, g5⟩
  · rw [g2]; simp only [cI_w]; simp
  · rw [g2]; simp only [cI_w]; simp
/-! the machine's frames -/
theorem i2_loop (N x0 f : Nat) : ∀ (n i : Nat) (K : Ka) (M : Cm), i ≤ 25 → 25 < n + i → kd K x0 = 3 → x0 < f → f < kz K → kd K f = 25 → le K f = 25 → cR M x0 2 = some f →
    ∃ (K' : Ka) (M' : Cm), lT_X2_init_99 N (bT_X2_init_124 N) n x0 (nI i) K M = some (.inl (K', M')) ∧ kz K' = kz K + 2 * (25 - i) ∧ ku K' = ku K + 16 * (25 - i) ∧ (∀ a, a < kz K → kd K' a = kd K a ∧ le K' a = le K a) ∧ (∀ a, a < kz K → cI M' a = cI M a ∧ cL M' a = cL M a ∧ (a ≠ f → cR M' a = cR M a)) ∧ (∀ k, k < i → cR M' f k = cR M f k) ∧
      ∀ k, i ≤ k → k < 25 → cR M' f k = some (kz K + 2 * (k - i)) ∧ kd K' (kz K + 2 * (k - i)) = 2 ∧ kd K' (kz K + 2 * (k - i) + 1) = 22 ∧ le K' (kz K + 2 * (k - i) + 1) = 10 ∧ cR M' (kz K + 2 * (k - i)) 0 = some (kz K + 2 * (k - i) + 1) := by
  intro n
  induction n with
  | zero => intro i K M hi hn; omega
  | succ n ih =>
    intro i K M hi hn hk hxf hfk hkf hlf hr
    rw [lT_X2_init_99]
    by_cases he : i = 25
    · subst he
      rw [if_pos (by decide)]
      refine ⟨K, M, rfl, by omega, by omega, fun _ _ => ⟨rfl, rfl⟩, fun _ _ => ⟨rfl, rfl, fun _ => rfl⟩, fun _ _ => rfl, fun k h1 h2 => by omega⟩
    · have hlt : i < 25 := by omega
      rw [if_neg (show ¬ (25 : Int32) ≤ nI i from nI_ge hlt (by decide)), gd_k hk, nn_s hr]
      unfold bT_X2_init_113
      obtain ⟨K2, M2, e2, B⟩ := f_X1 N (kz K) (kNew K 2 0 (cN 1)) (mZ M (kz K)) ⟨kd_new _ _ _ _, by rw [kz_n]; omega⟩
      rw [e2]
      obtain ⟨b1, b2, b3, b4, b5, b6, b7⟩ := B
      have hz2 : kz K2 = kz K + 2 := by rw [b1, kz_n]; rfl
      have hu2 : ku K2 = ku K + 16 := by rw [b2, ku_n]; rfl
      have ho : ∀ a, a < kz K → kd K2 a = kd K a ∧ le K2 a = le K a := fun a ha => by
        obtain ⟨q1, q2⟩ := b3 a (by rw [kz_n]; omega)
        exact ⟨q1.trans (kd_newo _ _ _ _ (by omega)), q2.trans (le_newo _ _ _ _ (by omega))⟩
      have hm : ∀ a, a < kz K → cI M2 a = cI M a ∧ cL M2 a = cL M a ∧ cR M2 a = cR M a := fun a ha => by
        obtain ⟨q1, q2, q3⟩ := b5 a (by rw [kz_n]; omega) (by omega)
        exact ⟨q1.trans (cI_mZ M (by omega)), q2.trans (cL_mZ M (by omega)), q3.trans (cR_mZ M (by omega))⟩
      obtain ⟨n1, n2, n3⟩ := b4 0 (0, 22, 10) rfl
      rw [kz_n] at n1 n2 n3
      have hkz : kd K2 (kz K) = 2 := ((b3 (kz K) (by rw [kz_n]; omega)).1).trans (kd_new _ _ _ _)
      show ∃ (K' : Ka) (M' : Cm), bT_X2_init_117 N (lT_X2_init_99 N (bT_X2_init_124 N) n) (bT_X2_init_124 N) x0 (nI i) f (nI i) (kz K) K2 M2 = _ ∧ _
      unfold bT_X2_init_117
      rw [gd_k ((ho f hfk).1.trans hkf), gd_k hkz, (ho f hfk).2, hlf, ck_n hlt (by decide), nI_clamp (by omega), nI_1]
      obtain ⟨K', M', e', z1, z2, z3, z4, z5, z6⟩ := ih (i + 1) K2 (wR M2 f i (some (kz K))) (by omega) (by omega) ((ho x0 (by omega)).1.trans hk) hxf (by omega) ((ho f hfk).1.trans hkf) ((ho f hfk).2.trans hlf) (by rw [cR_w, if_neg (by omega), (hm x0 (by omega)).2.2]; exact hr)
      refine ⟨K', M', e', by omega, by omega, fun a ha => ?_, fun a ha => ⟨?_, ?_, fun hne => ?_⟩, fun k hk2 => ?_, fun k h1 h2 => ?_⟩
      · obtain ⟨q1, q2⟩ := z3 a (by omega)
        exact ⟨q1.trans (ho a ha).1, q2.trans (ho a ha).2⟩
      · exact ((z4 a (by omega)).1).trans (hm a ha).1
      · exact ((z4 a (by omega)).2.1).trans (hm a ha).2.1
      · exact ((z4 a (by omega)).2.2 hne).trans ((cR_wR_ne M2 _ _ hne).trans (hm a ha).2.2)
      · rw [z5 k (by omega), cR_w, if_neg (by omega), (hm f hfk).2.2]
      · by_cases hki : k = i
        · subst hki
          rw [Nat.sub_self, Nat.mul_zero, Nat.add_zero]
          refine ⟨by rw [z5 k (by omega), cR_w, if_pos ⟨rfl, rfl⟩], ((z3 (kz K) (by omega)).1).trans hkz, ((z3 (kz K + 1) (by omega)).1).trans n1, ((z3 (kz K + 1) (by omega)).2).trans n2, ?_⟩
          rw [(z4 (kz K) (by omega)).2.2 (by omega), cR_w, if_neg (by omega)]
          exact n3
        · have e : kz K2 + 2 * (k - (i + 1)) = kz K + 2 * (k - i) := by omega
          have := z6 k (by omega) h2
          rw [e] at this
          exact this
def m2x (x0 x1 x2 : Nat) (K : Ka) (M : Cm) : Cm := wR (wR (wI (wI (wI (wI (wI (wI (wI (wI (wI (wI (wI (wR (wR (wR (mZ (wR (mZ M (kz K)) x0 2 (some (kz K))) (kz K + 1)) x0 3 (some (kz K + 1))) x0 4 (none : Option Nat)) x0 5 (none : Option Nat)) x0 6 0) x0 7 0) x0 8 (-1)) x0 9 0) x0 10 0) x0 11 0) x0 12 0) x0 13 0) x0 14 0) x0 15 0) x0 16 0) x0 0 (some x1)) x0 1 (some x2)
theorem f_X2 (N x0 x1 x2 : Nat) (K : Ka) (M : Cm) (hk : kd K x0 = 3) (hz : kz K = x0 + 1) (hN : 25 < N) : ∃ (K' : Ka) (M' : Cm), fT_X2_init N x0 x1 x2 K M = some (.inl (K', M')) ∧ kz K' = x0 + 53 ∧ ku K' = ku K + 1275 ∧ (∀ a, a ≤ x0 → kd K' a = kd K a ∧ le K' a = le K a) ∧ (∀ a, a < x0 → cI M' a = cI M a ∧ cL M' a = cL M a ∧ cR M' a = cR M a) ∧
    kd K' (x0 + 1) = 25 ∧ le K' (x0 + 1) = 25 ∧ kd K' (x0 + 2) = 22 ∧ le K' (x0 + 2) = 850 ∧ cR M' x0 0 = some x1 ∧ cR M' x0 1 = some x2 ∧ cR M' x0 2 = some (x0 + 1) ∧ cR M' x0 3 = some (x0 + 2) ∧ cI M' x0 11 = 0 ∧
    ∀ k, k < 25 → cR M' (x0 + 1) k = some (x0 + 3 + 2 * k) ∧ kd K' (x0 + 3 + 2 * k) = 2 ∧ kd K' (x0 + 3 + 2 * k + 1) = 22 ∧ le K' (x0 + 3 + 2 * k + 1) = 10 ∧ cR M' (x0 + 3 + 2 * k) 0 = some (x0 + 3 + 2 * k + 1) := by
  unfold fT_X2_init bT_X2_init_10 bT_X2_init_19
  have h1 := ks (x0 := x0) ⟨hk, by omega⟩ 25 (25 : Int32).toNatClampNeg (25 : Int32).toNatClampNeg
  have h2 := ks h1 22 (850 : Int32).toNatClampNeg (850 : Int32).toNatClampNeg
  rw [gd_t (by decide), gd_k h1.1, gd_t (by decide), gd_k h2.1, gd_k h2.1, gd_t (by decide), gd_t (by decide), gd_t (by decide)]
  have e25 : (25 : Int32).toNatClampNeg = 25 := by decide
  have e850 : (850 : Int32).toNatClampNeg = 850 := by decide
  rw [e25, e850] at *
  obtain ⟨K', M', e', z1, z2, z3, z4, z5, z6⟩ := i2_loop N x0 (x0 + 1) N 0 (kNew (kNew K 25 25 25) 22 850 850) (m2x x0 x1 x2 K M) (by omega) (by omega) h2.1 (by omega) (by rw [kz_n, kz_n]; omega) (by rw [kd_n, if_neg (by rw [kz_n]; omega), kd_n, if_pos hz.symm]) (by rw [le_n, if_neg (by rw [kz_n]; omega), le_n, if_pos hz.symm]) (by
    simp only [m2x, cR_w, cR_I, cR_z]
    simp [hz]
    omega)
  have hz2 : kz (kNew (kNew K 25 25 25) 22 850 850) = x0 + 3 := by rw [kz_n, kz_n]; omega
  rw [hz2] at z1 z3 z4 z6
  refine ⟨K', M', e', by omega, by rw [z2, ku_n, ku_n], fun a ha => ?_, fun a ha => ⟨?_, ?_, ?_⟩, ?_, ?_, ?_, ?_, ?_, ?_, ?_, ?_, ?_, fun k hk => ?_⟩
  · obtain ⟨q1, q2⟩ := z3 a (by omega)
    exact ⟨q1.trans ((kd_newo _ _ _ _ (by rw [kz_n]; omega)).trans (kd_newo _ _ _ _ (by omega))), q2.trans ((le_newo _ _ _ _ (by rw [kz_n]; omega)).trans (le_newo _ _ _ _ (by omega)))⟩
  · rw [(z4 a (by omega)).1]; funext j
    have n1 : ¬ a = x0 := by omega
    have n2 : ¬ a = kz K := by omega
    have n3 : ¬ a = kz K + 1 := by omega
    simp [m2x, cI_w, cI_R, cI_z, n1, n2, n3]
  · rw [(z4 a (by omega)).2.1]; funext j
    have n1 : ¬ a = x0 := by omega
    have n2 : ¬ a = kz K := by omega
    have n3 : ¬ a = kz K + 1 := by omega
    simp [m2x, cL_I, cL_R, cL_z, n1, n2, n3]
  · rw [(z4 a (by omega)).2.2 (by omega)]; funext j
    have n1 : ¬ a = x0 := by omega
    have n2 : ¬ a = kz K := by omega
    have n3 : ¬ a = kz K + 1 := by omega
    simp [m2x, cR_w, cR_I, cR_z, n1, n2, n3]
  · rw [(z3 (x0 + 1) (by omega)).1, kd_n, if_neg (by rw [kz_n]; omega), kd_n, if_pos hz.symm]
  · rw [(z3 (x0 + 1) (by omega)).2, le_n, if_neg (by rw [kz_n]; omega), le_n, if_pos hz.symm]
  · rw [(z3 (x0 + 2) (by omega)).1, kd_n, if_pos (by rw [kz_n]; omega)]
  · rw [(z3 (x0 + 2) (by omega)).2, le_n, if_pos (by rw [kz_n]; omega)]
  · rw [(z4 x0 (by omega)).2.2 (by omega)]; simp only [m2x, cR_w, cR_I, cR_z]; simp
  · rw [(z4 x0 (by omega)).2.2 (by omega)]; simp only [m2x, cR_w, cR_I, cR_z]; simp
  · rw [(z4 x0 (by omega)).2.2 (by omega)]; simp only [m2x, cR_w, cR_I, cR_z]; simp [hz]; omega
  · rw [(z4 x0 (by omega)).2.2 (by omega)]; simp only [m2x, cR_w, cR_I, cR_z]; simp [hz]
  · rw [(z4 x0 (by omega)).1]; simp only [m2x, cI_w, cI_R]; simp
  · exact z6 k (by omega) hk
