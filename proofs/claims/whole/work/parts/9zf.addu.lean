/-! the class adds a unit -/
section ADDU
variable {K : Ka} {M M' : Cm} {N sm tu row nu sl : Nat} {R : List Nat} {Ls cl : Nat → List Nat}
/-- the leans on the roles -/
theorem al_lp (k119 : Nat → Int64 → Nat → Ka → Cm → Option ((Ka × Cm) ⊕ (Ka × Cm))) (x : Int64) (ks : kd K sm = 6) (h6 : cR M sm 6 = some (sm + 7)) (k6 : kd K (sm + 7) = 22) (hl : nu < le K (sm + 7)) (h24 : le K (sm + 7) ≤ 24) (hr : tu + 1 < row) (hsm : sm + 11 ≤ tu) :
    ∀ (n k : Nat) (M : Cm), k ≤ R.length → R.length < n + k → cR M sm 6 = some (sm + 7) → cI M sm 11 = nI nu → URs K M tu row nu R →
    ∃ M', lT_X5_addUnit_83 N k119 n sm x tu (nI k) K M = k119 sm x tu K M' ∧ (∀ q, q ≠ sm + 7 → cI M' q = cI M q) ∧ (∀ s, s ≠ nu → cI M' (sm + 7) s = cI M (sm + 7) s) ∧ cL M' = cL M ∧ cR M' = cR M ∧ ∀ v, v < 24 → bt (cI M' (sm + 7) nu) v = (bt (cI M (sm + 7) nu) v || decide (v ∈ R.drop k)) := by
  intro n
  induction n with
  | zero => intro k M h1 h2; omega
  | succ n ih =>
    intro k M h1 h2 hc h11 hR
    obtain ⟨r1, r2, r3, r4, r5, r6, r7, r8, r9⟩ := id hR
    rw [lT_X5_addUnit_83, gd_k r1, r2]
    by_cases h : k < R.length
    · have hr := r8 _ (getD_mem h)
      rw [if_neg (nI_ge h (by omega)), gd_k ks, nn_s hc, gd_k k6, h11, ck_n hl (by omega), nn_s r4, gd_k r5, r6, ck_n (show k < 6 by omega) (by decide), ck_n hl (by omega), nI_clamp (show nu < 2 ^ 31 by omega), nI_clamp (show k < 2 ^ 31 by omega), r7 k h, nI_1]
      have hI : ∀ q, q ≠ sm + 7 → cI (wI M (sm + 7) nu (cI M (sm + 7) nu ||| ((1 : Int32) <<< (nI (R.getD k 0) &&& 31)))) q = cI M q := fun q hq => cI_wI_ne _ _ _ hq
      have hR1 : URs K (wI M (sm + 7) nu (cI M (sm + 7) nu ||| ((1 : Int32) <<< (nI (R.getD k 0) &&& 31)))) tu row nu R := ⟨r1, by rw [hI tu (by omega)]; exact r2, r3, r4, r5, r6, fun j hj => by rw [hI (tu + 1) (by omega)]; exact r7 j hj, r8, r9⟩
      obtain ⟨M2, b1, b2, b3, b4, b5, b6⟩ := ih (k + 1) (wI M (sm + 7) nu (cI M (sm + 7) nu ||| ((1 : Int32) <<< (nI (R.getD k 0) &&& 31)))) (by omega) (by omega) hc (by rw [hI sm (by omega)]; exact h11) hR1
      refine ⟨M2, b1, fun q hq => (b2 q hq).trans (hI q hq), fun s hs => ?_, b4, b5, fun v hv => ?_⟩
      · rw [b3 s hs, cI_w, if_neg (fun y => hs y.2)]
      · rw [b6 v hv, cI_w, if_pos ⟨rfl, rfl⟩, bit_set (by omega) (by omega), getD_drop h, Bool.or_assoc]
        congr 1
        rw [← Bool.decide_or]
        congr 1
        rw [List.mem_cons]
    · have ek : k = R.length := by omega
      subst ek
      rw [if_pos (nI_le (Nat.le_refl _) (by omega)), List.drop_length]
      exact ⟨M, rfl, fun _ _ => rfl, fun _ _ => rfl, rfl, rfl, fun v _ => by simp⟩
/-- what adding a unit does: three rows more, lists L1 (search) and L2 (climb) -/
def AUo (K K' : Ka) (M M' : Cm) (sm tu nu : Nat) (x : Int64) (R L1 L2 : List Nat) : Prop :=
  K' = kNew (kNew (kNew K 22 (nu + 1) (nu + 1)) 22 L1.length L1.length) 22 L2.length L2.length ∧
  (∀ q, q ≠ sm → q ≠ sm + 7 → q < kz K → cI M' q = cI M q) ∧ (∀ s, s ≠ 11 → cI M' sm s = cI M sm s) ∧ cI M' sm 11 = nI (nu + 1) ∧ (∀ s, s ≠ nu → cI M' (sm + 7) s = cI M (sm + 7) s) ∧
  (∀ v, v < 24 → (bt (cI M' (sm + 7) nu) v = true ↔ bt (cI M (sm + 7) nu) v = true ∨ v ∈ R ∨ cI M tu 6 = nI v)) ∧
  (∀ q, q < kz K → q ≠ sm + 5 → cL M' q = cL M q) ∧ (∀ s, cL M' (sm + 5) s = if s = nu then x else cL M (sm + 5) s) ∧
  (∀ q s, q < kz K → ¬ (q = sm + 6 ∧ s = nu) → ¬ (q = tu ∧ (s = 10 ∨ s = 11)) → cR M' q s = cR M q s) ∧ cR M' (sm + 6) nu = some tu ∧ cR M' tu 10 = some (kz K + 1) ∧ cR M' tu 11 = some (kz K + 2) ∧ HL M' (kz K + 1) L1 ∧ HL M' (kz K + 2) L2
theorem au_ok (x : Int64) (ks : kd K sm = 6) (h4 : cR M sm 4 = some (sm + 5) ∧ kd K (sm + 5) = 23 ∧ nu < le K (sm + 5) ∧ le K (sm + 5) ≤ 24) (h5 : nu < le K (sm + 6)) (h6 : cR M sm 6 = some (sm + 7) ∧ kd K (sm + 7) = 22 ∧ nu < le K (sm + 7) ∧ le K (sm + 7) ≤ 24) (hnu : nu < 24) (hN : 30 < N)
    (hU : ULs K M sm nu 10 (kz K) Ls) (hU2 : ULs K M sm nu 11 (kz K) cl) (hR : URs K M tu (kz K) nu R) (h11 : cI M sm 11 = nI nu) (hb : cI M tu 6 = -1 ∨ ∃ v, v < nu ∧ cI M tu 6 = nI v) (hsm : sm + 11 ≤ tu) :
    ∃ K' M', fT_X5_addUnit N sm x tu K M = some (.inl (K', M')) ∧ AUo K K' M M' sm tu nu x R (if cI M tu 6 < 0 then amR Ls [nu] R else amL (amR Ls [nu] R) (Ls (cI M tu 6).toNatClampNeg)) (amR cl [] R ++ (if cI M tu 0 = 0 then [nu] else [])) ∧ (∀ v, v ∈ (if cI M tu 6 < 0 then amR Ls [nu] R else amL (amR Ls [nu] R) (Ls (cI M tu 6).toNatClampNeg)) → v ≤ nu) ∧ (if cI M tu 6 < 0 then amR Ls [nu] R else amL (amR Ls [nu] R) (Ls (cI M tu 6).toNatClampNeg)).Nodup ∧ (amR cl [] R ++ (if cI M tu 0 = 0 then [nu] else [])).Nodup ∧ ∀ v, v ∈ amR cl [] R ++ (if cI M tu 0 = 0 then [nu] else []) → v ≤ nu := by
  obtain ⟨r1, r2, r3, r4, r5, r6, r7, r8, r9⟩ := id hR
  have tl : tu < kz K := by omega
  -- the row
  have kA : ∀ a, a < kz K → kd (kNew K 22 (nu + 1) (nu + 1)) a = kd K a ∧ le (kNew K 22 (nu + 1) (nu + 1)) a = le K a := fun a ha => (KE.new _ _ _ _).2 a ha
  have e0 : fT_X5_addUnit N sm x tu K M = bT_X5_addUnit_21 N sm x tu (kz K) (kNew K 22 (nu + 1) (nu + 1)) (mZ M (kz K)) := by
    unfold fT_X5_addUnit
    rw [gd_k ks, nn_s hU.1.1, gd_k hU.1.2.1, h11, if_pos (nI_lt h5 (by have := hU.1.2.2.2; omega)), nI_1, gd_t (by rw [nI_clamp (show nu + 1 < 2 ^ 31 by omega)]; exact decide_eq_true ⟨nI_pos (by omega), by omega⟩), nI_clamp (show nu + 1 < 2 ^ 31 by omega)]
  have z0 : ∀ q, q ≠ kz K → cI (mZ M (kz K)) q = cI M q := fun q hq => by funext s; rw [cI_z, if_neg hq]
  have zR : ∀ q, q ≠ kz K → cR (mZ M (kz K)) q = cR M q := fun q hq => by funext s; rw [cR_z, if_neg hq]
  have zL : ∀ q, q ≠ kz K → cL (mZ M (kz K)) q = cL M q := fun q hq => by funext s; rw [cL_z, if_neg hq]
  have uz : ∀ {sl : Nat} {Ls : Nat → List Nat}, ULs K M sm nu sl (kz K) Ls → ULs (kNew K 22 (nu + 1) (nu + 1)) (mZ M (kz K)) sm nu sl (kz K) Ls := fun {sl Ls} q => by
    have q' := q.ke kA (by omega)
    obtain ⟨q1, q2⟩ := q'
    refine ⟨by rw [zR sm (by omega)]; exact q1, fun u hu => ?_⟩
    obtain ⟨tw, su, w1, w2, w3, w4, w5, w6, w7, w8, w9⟩ := q2 u hu
    exact ⟨tw, su, by rw [zR _ (by omega)]; exact w1, w2, by rw [zR _ (by omega)]; exact w3, w4, w5, w6, w7, fun j hj => by rw [z0 _ (by omega)]; exact w8 j hj, w9⟩
  have rz : URs (kNew K 22 (nu + 1) (nu + 1)) (mZ M (kz K)) tu (kz K) nu R := by
    have q := hR.ke kA
    obtain ⟨q1, q2, q3, q4, q5, q6, q7, q8, q9⟩ := q
    exact ⟨q1, by rw [z0 tu (by omega)]; exact q2, q3, by rw [zR tu (by omega)]; exact q4, q5, q6, fun j hj => by rw [z0 (tu + 1) (by omega)]; exact q7 j hj, q8, q9⟩
  have ks0 : kd (kNew K 22 (nu + 1) (nu + 1)) sm = 6 := by rw [(kA sm (by omega)).1]; exact ks
  have kr0 : kd (kNew K 22 (nu + 1) (nu + 1)) (kz K) = 22 := by rw [kd_n, if_pos rfl]
  have lr0 : le (kNew K 22 (nu + 1) (nu + 1)) (kz K) = nu + 1 := by rw [le_n, if_pos rfl]
  have b0 : cI (mZ M (kz K)) tu 6 = cI M tu 6 := by rw [z0 tu (by omega)]
  obtain ⟨M1, L1, s1, s2, s3, s4, s5, s6, s7, s8⟩ := fs_ok (N := N) ks0 kr0 lr0 hnu hN (uz hU) rz (by rw [z0 sm (by omega)]; exact h11) (by rw [b0]; exact hb)
  rw [b0] at s8
  have ln1 : L1.length ≤ nu + 1 := nd_len _ _ s6 (fun v q => by have := s7 v q; omega)
  obtain ⟨M2, c1, c2, c3⟩ := cp_ok (N := N) (M := M1) (L := L1) kr0 (by rw [kz_n]; omega) (by rw [lr0]; exact ln1) (by rw [lr0]; omega) s5
  rw [kz_n] at c1 c2 c3
  have kB : ∀ a, a < kz K + 1 → kd (kNew (kNew K 22 (nu + 1) (nu + 1)) 22 L1.length L1.length) a = kd (kNew K 22 (nu + 1) (nu + 1)) a ∧ le (kNew (kNew K 22 (nu + 1) (nu + 1)) 22 L1.length L1.length) a = le (kNew K 22 (nu + 1) (nu + 1)) a := fun a ha => (KE.new _ _ _ _).2 a (by rw [kz_n]; exact ha)
  -- behind the search list
  have i2 : ∀ q, q < kz K → cI (wR M2 tu 10 (some (kz K + 1))) q = cI M q := fun q hq => by rw [cI_R, (c2 q (by omega)).1, s2 q (by omega), z0 q (by omega)]
  have l2 : ∀ q, q < kz K → cL (wR M2 tu 10 (some (kz K + 1))) q = cL M q := fun q hq => by rw [cL_R, (c2 q (by omega)).2.1, s3, zL q (by omega)]
  have rr2 : ∀ q s, q < kz K → ¬ (q = tu ∧ s = 10) → cR (wR M2 tu 10 (some (kz K + 1))) q s = cR M q s := fun q s hq hn => by rw [cR_w, if_neg hn, (c2 q (by omega)).2.2, s4, zR q (by omega)]
  have hl2 : HL (wR M2 tu 10 (some (kz K + 1))) (kz K + 1) L1 := fun j hj => by rw [cI_R]; exact c3 j hj
  have uy : ULs (kNew (kNew K 22 (nu + 1) (nu + 1)) 22 L1.length L1.length) (wR M2 tu 10 (some (kz K + 1))) sm nu 11 (kz K) cl := by
    obtain ⟨q1, q2⟩ := hU2.ke (K' := kNew (kNew K 22 (nu + 1) (nu + 1)) 22 L1.length L1.length) (fun a ha => ⟨(kB a (by omega)).1.trans (kA a ha).1, (kB a (by omega)).2.trans (kA a ha).2⟩) (by omega)
    refine ⟨by rw [rr2 sm 5 (by omega) (by omega)]; exact q1, fun u hu => ?_⟩
    obtain ⟨tw, su, w1, w2, w3, w4, w5, w6, w7, w8, w9⟩ := q2 u hu
    exact ⟨tw, su, by rw [rr2 _ _ (by omega) (by omega)]; exact w1, w2, by rw [rr2 _ _ (by omega) (by omega)]; exact w3, w4, w5, w6, w7, fun j hj => by rw [i2 _ (by omega)]; exact w8 j hj, w9⟩
  have ry : URs (kNew (kNew K 22 (nu + 1) (nu + 1)) 22 L1.length L1.length) (wR M2 tu 10 (some (kz K + 1))) tu (kz K) nu R := by
    obtain ⟨q1, q2, q3, q4, q5, q6, q7, q8, q9⟩ := hR.ke (K' := kNew (kNew K 22 (nu + 1) (nu + 1)) 22 L1.length L1.length) (fun a ha => ⟨(kB a (by omega)).1.trans (kA a ha).1, (kB a (by omega)).2.trans (kA a ha).2⟩)
    exact ⟨q1, by rw [i2 tu tl]; exact q2, q3, by rw [rr2 tu 2 tl (by omega)]; exact q4, q5, q6, fun j hj => by rw [i2 (tu + 1) (by omega)]; exact q7 j hj, q8, q9⟩
  have ks1 : kd (kNew (kNew K 22 (nu + 1) (nu + 1)) 22 L1.length L1.length) sm = 6 := by rw [(kB sm (by omega)).1]; exact ks0
  have kr1 : kd (kNew (kNew K 22 (nu + 1) (nu + 1)) 22 L1.length L1.length) (kz K) = 22 := by rw [(kB _ (by omega)).1]; exact kr0
  have lr1 : le (kNew (kNew K 22 (nu + 1) (nu + 1)) 22 L1.length L1.length) (kz K) = nu + 1 := by rw [(kB _ (by omega)).2]; exact lr0
  obtain ⟨M3, L2, f1, f2, f3, f4, f5, f6, f7, f8⟩ := fc_ok (N := N) ks1 kr1 lr1 hnu hN uy ry (by rw [i2 sm (by omega)]; exact h11) (by omega)
  rw [i2 tu tl] at f8
  have ln2 : L2.length ≤ nu + 1 := nd_len _ _ f6 (fun v q => by have := f7 v q; omega)
  obtain ⟨M4, d1, d2, d3⟩ := cp_ok (N := N) (M := M3) (L := L2) kr1 (by rw [kz_n, kz_n]; omega) (by rw [lr1]; exact ln2) (by rw [lr1]; omega) f5
  rw [kz_n, kz_n] at d1 d2 d3
  generalize hK3 : kNew (kNew (kNew K 22 (nu + 1) (nu + 1)) 22 L1.length L1.length) 22 L2.length L2.length = K3 at *
  have kC : ∀ a, a < kz K → kd K3 a = kd K a ∧ le K3 a = le K a := fun a ha => by
    have q := (KE.new (kNew (kNew K 22 (nu + 1) (nu + 1)) 22 L1.length L1.length) 22 L2.length L2.length).2 a (by rw [kz_n, kz_n]; omega)
    rw [hK3] at q
    exact ⟨q.1.trans ((kB a (by omega)).1.trans (kA a ha).1), q.2.trans ((kB a (by omega)).2.trans (kA a ha).2)⟩
  -- behind the climb
  have i5 : ∀ q, q < kz K → cI (wR M4 tu 11 (some (kz K + 1 + 1))) q = cI M q := fun q hq => by rw [cI_R, (d2 q (by omega)).1, f2 q (by omega), i2 q hq]
  have l5 : ∀ q, q < kz K → cL (wR M4 tu 11 (some (kz K + 1 + 1))) q = cL M q := fun q hq => by rw [cL_R, (d2 q (by omega)).2.1, f3, l2 q hq]
  have r5' : ∀ q s, q < kz K → ¬ (q = tu ∧ (s = 10 ∨ s = 11)) → cR (wR M4 tu 11 (some (kz K + 1 + 1))) q s = cR M q s := fun q s hq hn => by rw [cR_w, if_neg (fun y => hn ⟨y.1, Or.inr y.2⟩), (d2 q (by omega)).2.2, f4, rr2 q s hq (fun y => hn ⟨y.1, Or.inl y.2⟩)]
  have r10 : cR (wR M4 tu 11 (some (kz K + 1 + 1))) tu 10 = some (kz K + 1) := by rw [cR_w, if_neg (by omega), (d2 tu (by omega)).2.2, f4, cR_w, if_pos ⟨rfl, rfl⟩]
  have r11 : cR (wR M4 tu 11 (some (kz K + 1 + 1))) tu 11 = some (kz K + 2) := by rw [cR_w, if_pos ⟨rfl, rfl⟩]
  have hA : HL (wR M4 tu 11 (some (kz K + 1 + 1))) (kz K + 1) L1 := fun j hj => by rw [cI_R, (d2 _ (by omega)).1, f2 _ (by omega)]; exact hl2 j hj
  have hB : HL (wR M4 tu 11 (some (kz K + 1 + 1))) (kz K + 2) L2 := fun j hj => by rw [cI_R]; exact d3 j hj
  have e1 : fT_X5_addUnit N sm x tu K M = bT_X5_addUnit_52 N sm x tu tu (kz K + 1 + 1) K3 M4 := by
    rw [e0]
    unfold bT_X5_addUnit_21
    rw [gd_k ks0, s1, bs]
    dsimp only
    rw [c1, ta_l]
    unfold bT_X5_addUnit_36
    dsimp only
    rw [gd_k ry.1, gd_k ks1, f1, bs]
    dsimp only
    rw [d1, ta_l]
  generalize hM5 : wR M4 tu 11 (some (kz K + 1 + 1)) = M5 at *
  have kt3 : kd K3 tu = 8 := by rw [(kC tu tl).1]; exact r1
  have ks3 : kd K3 sm = 6 := by rw [(kC sm (by omega)).1]; exact ks
  have k63 : kd K3 (sm + 7) = 22 := by rw [(kC _ (by omega)).1]; exact h6.2.1
  have l63 : le K3 (sm + 7) = le K (sm + 7) := (kC _ (by omega)).2
  have c6 : cR M5 sm 6 = some (sm + 7) := by rw [r5' sm 6 (by omega) (by omega)]; exact h6.1
  have j11 : cI M5 sm 11 = nI nu := by rw [i5 sm (by omega)]; exact h11
  have j6 : cI M5 tu 6 = cI M tu 6 := by rw [i5 tu tl]
  have R5 : URs K3 M5 tu (kz K) nu R := by
    obtain ⟨q1, q2, q3, q4, q5, q6, q7, q8, q9⟩ := hR.ke (K' := K3) kC
    exact ⟨q1, by rw [i5 tu tl]; exact q2, q3, by rw [r5' tu 2 tl (by omega)]; exact q4, q5, q6, fun j hj => by rw [i5 (tu + 1) (by omega)]; exact q7 j hj, q8, q9⟩
  unfold bT_X5_addUnit_52 bT_X5_addUnit_80 at e1
  rw [hM5, gd_k kt3, gd_k kt3, j6] at e1
  -- the leans
  have lean : ∃ M6, fT_X5_addUnit N sm x tu K M = lT_X5_addUnit_83 N (bT_X5_addUnit_119 N) N sm x tu (nI 0) K3 M6 ∧ (∀ q, q ≠ sm + 7 → cI M6 q = cI M5 q) ∧ (∀ s, s ≠ nu → cI M6 (sm + 7) s = cI M5 (sm + 7) s) ∧ cL M6 = cL M5 ∧ cR M6 = cR M5 ∧ ∀ v, v < 24 → (bt (cI M6 (sm + 7) nu) v = true ↔ bt (cI M5 (sm + 7) nu) v = true ∨ cI M tu 6 = nI v) := by
    rcases hb with q | ⟨v, v1, v2⟩
    · rw [if_pos (by rw [q]; decide)] at e1
      refine ⟨M5, e1, fun _ _ => rfl, fun _ _ => rfl, rfl, rfl, fun v hv => ⟨Or.inl, fun y => y.elim id (fun y => ?_)⟩⟩
      rw [q] at y
      have : ¬ nI v < 0 := nI_pos (by omega)
      rw [← y] at this
      exact absurd (by decide) this
    · rw [v2, if_neg (nI_pos (by omega)), gd_k ks3, nn_s c6, gd_k k63, j11, l63, ck_n h6.2.2.1 (by omega), ck_n h6.2.2.1 (by omega), nI_clamp (show nu < 2 ^ 31 by omega)] at e1
      refine ⟨_, e1, fun q hq => cI_wI_ne _ _ _ hq, fun s hs => by rw [cI_w, if_neg (fun y => hs y.2)], rfl, rfl, fun w hw => ?_⟩
      rw [cI_w, if_pos ⟨rfl, rfl⟩, bit_set (by omega) (by omega), v2, nI_eq (by omega) (by omega), Bool.or_eq_true, decide_eq_true_eq]
      exact ⟨fun y => y.elim Or.inl (fun y => Or.inr y.symm), fun y => y.elim Or.inl (fun y => Or.inr y.symm)⟩
  obtain ⟨M6, g1, g2, g3, g4, g5, g6⟩ := lean
  have R6 : URs K3 M6 tu (kz K) nu R := by
    obtain ⟨q1, q2, q3, q4, q5, q6, q7, q8, q9⟩ := R5
    exact ⟨q1, by rw [g2 tu (by omega)]; exact q2, q3, by rw [g5]; exact q4, q5, q6, fun j hj => by rw [g2 (tu + 1) (by omega)]; exact q7 j hj, q8, q9⟩
  obtain ⟨M7, a1, a2, a3, a4, a5, a6⟩ := al_lp (N := N) (R := R) (M := M6) (row := kz K) (bT_X5_addUnit_119 N) x ks3 (by rw [g5]; exact c6) k63 (by rw [l63]; exact h6.2.2.1) (by rw [l63]; exact h6.2.2.2) r9 hsm N 0 M6 (by omega) (by omega) (by rw [g5]; exact c6) (by rw [g2 sm (by omega)]; exact j11) R6
  rw [List.drop_zero] at a6
  have c4 : cR M7 sm 4 = some (sm + 5) := by rw [a5, g5, r5' sm 4 (by omega) (by omega)]; exact h4.1
  have c5 : cR M7 sm 5 = some (sm + 6) := by rw [a5, g5, r5' sm 5 (by omega) (by omega)]; exact hU.1.1
  have k11 : cI M7 sm 11 = nI nu := by rw [a2 sm (by omega), g2 sm (by omega)]; exact j11
  have c5' : cR (wL M7 (sm + 5) nu x) sm 5 = some (sm + 6) := c5
  have k11' : cI (wL M7 (sm + 5) nu x) sm 11 = nI nu := k11
  have k11'' : cI (wR (wL M7 (sm + 5) nu x) (sm + 6) nu (some tu)) sm 11 = nI nu := k11
  have fin : fT_X5_addUnit N sm x tu K M = some (.inl (K3, wI (wR (wL M7 (sm + 5) nu x) (sm + 6) nu (some tu)) sm 11 (nI (nu + 1)))) := by
    rw [g1, a1]
    unfold bT_X5_addUnit_119
    rw [gd_k ks3, nn_s c4, gd_k (by rw [(kC _ (by omega)).1]; exact h4.2.1), k11, (kC (sm + 5) (by omega)).2, ck_n h4.2.2.1 (by omega), nI_clamp (show nu < 2 ^ 31 by omega), nn_s c5', gd_k (by rw [(kC _ (by omega)).1]; exact hU.1.2.1), gd_k kt3, k11', (kC (sm + 6) (by omega)).2, ck_n h5 (by have := hU.1.2.2.2; omega), nI_clamp (show nu < 2 ^ 31 by omega), k11'', nI_1]
  subst s8 f8
  refine ⟨K3, _, fin, ⟨hK3.symm, fun q h1 h2 h3 => ?_, fun s hs => ?_, ?_, fun s hs => ?_, fun v hv => ?_, fun q h1 h2 => ?_, fun s => ?_, fun q s h1 h2 h3 => ?_, ?_, ?_, ?_, fun j hj => ?_, fun j hj => ?_⟩, s7, s6, f6, f7⟩
  · rw [cI_wI_ne _ _ _ h1, cI_R, cI_L, a2 q h2, g2 q h2, i5 q h3]
  · rw [cI_w, if_neg (fun y => hs y.2), cI_R, cI_L, a2 sm (by omega), g2 sm (by omega), i5 sm (by omega)]
  · rw [cI_w, if_pos ⟨rfl, rfl⟩]
  · rw [cI_wI_ne _ _ _ (by omega), cI_R, cI_L, a3 s hs, g3 s hs, i5 _ (by omega)]
  · rw [cI_wI_ne _ _ _ (by omega), cI_R, cI_L, a6 v hv, Bool.or_eq_true, g6 v hv, decide_eq_true_eq, i5 _ (by omega)]
    exact ⟨fun y => y.elim (fun y => y.elim Or.inl (fun y => Or.inr (Or.inr y))) (fun y => Or.inr (Or.inl y)), fun y => y.elim (fun y => Or.inl (Or.inl y)) (fun y => y.elim Or.inr (fun y => Or.inl (Or.inr y)))⟩
  · rw [cL_I, cL_R, cL_wL_ne _ _ _ h2, a4, g4, l5 q h1]
  · rw [cL_I, cL_R, cL_w, a4, g4, l5 _ (by omega)]
    by_cases y : s = nu
    · rw [if_pos ⟨rfl, y⟩, if_pos y]
    · rw [if_neg (fun w => y w.2), if_neg y]
  · rw [cR_I, cR_w, if_neg h2, cR_L, a5, g5, r5' q s h1 h3]
  · rw [cR_I, cR_w, if_pos ⟨rfl, rfl⟩]
  · rw [cR_I, cR_w, if_neg (by omega), cR_L, a5, g5, r10]
  · rw [cR_I, cR_w, if_neg (by omega), cR_L, a5, g5, r11]
  · rw [cI_wI_ne _ _ _ (by omega), cI_R, cI_L, a2 _ (by omega), g2 _ (by omega)]
    exact hA j hj
  · rw [cI_wI_ne _ _ _ (by omega), cI_R, cI_L, a2 _ (by omega), g2 _ (by omega)]
    exact hB j hj
end ADDU
