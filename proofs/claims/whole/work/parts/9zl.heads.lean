/-! heads of modules and roles read by both -/
/-- behind a head: all is there for the unit to be added -/
def HOc (z b bn sm size t nd nu nm tu : Nat) (K0 K1 : Ka) (M : Cm) (S : Ms) (N a : Nat) (x : Int64) (c : Option ((Ka × Cm) ⊕ (Ka × Cm))) (o : Option Ms) : Prop :=
  (∃ M' S' a' x1 x2 bI R p q, HS z bn sm size t nd nu nm tu K1 M S M' S' a' x1 x2 bI R ∧ (∀ K' M'', fT_X5_addUnit N sm x tu K1 M' = some (.inl (K', M'')) → c = bT_X3_readUnit_49 N (z + 7) tu K' M'') ∧ o = bM_toldUnit_205 N (nI nu) (nI (24 * bn + nu)) x S' ∧ (x1 = 0 ∨ x1 = 1) ∧ (x2 = 0 ∨ x2 = 1) ∧ (x1 = 0 → bI = -1) ∧ (bI = -1 ∨ ∃ v, v < nu ∧ bI = nI v) ∧ a + 2 + p + q ≤ a' ∧ (bI = -1 ∨ p = 2) ∧ (R = [] ∨ q = 2)) ∨ FT z b K0 M S c o
/-- a new name -/
def FRS (bn nd nu nm : Nat) (S : Ms) (x : Int64) : Prop := (∀ r, r < 25 → x ≠ kwT r) ∧ (∀ k, k < nd → mL S 14 (24 * bn + k) ≠ x) ∧ (∀ k, k < nu → mL S 19 (24 * bn + k) ≠ x) ∧ ∀ k, k < nm → mL S 36 (20 * bn + k) ≠ x
def HO (z b bn sm size t nd nu nm : Nat) (K0 K : Ka) (M : Cm) (S : Ms) (N a : Nat) : Prop :=
  (∃ x, FRS bn nd nu nm S x ∧ HOc z b bn sm size t nd nu nm (kz K) K0 (uK K) M S N a x (fT_X3_readUnit N (z + 7) K M) (fM_toldUnit N S)) ∨ FT z b K0 M S (fT_X3_readUnit N (z + 7) K M) (fM_toldUnit N S)
section HEADS
variable {N z b bn sm size t nd nu nm tu : Nat} {K0 K K1 : Ka} {M M' : Cm} {S S' : Ms} {a : Nat} {x1 x2 bI : Int32} {R : List Nat} {f r : Nat} {α β : Type}
theorem FT.go {c : Option (α ⊕ (Ka × Cm))} {o : Option Ms} (h : FT z b K0 M S c o) (k : α → Option (β ⊕ (Ka × Cm))) (rr : Ms → Option Ms) (hr : ∀ S9 f, DS S9 f → ∃ S8, rr S9 = some S8 ∧ DS S8 f ∧ AgO b S9 S8) : FT z b K0 M S (tb c k) (o.bind rr) := by
  obtain ⟨f, K', M', S', h1, h2, h3, h4, h5, h6, h7, h8⟩ := h
  obtain ⟨S8, s1, s2, s3⟩ := hr S' f h7
  exact ⟨f, K', M', S8, h1, by rw [h2]; rfl, h3, h4, h5, by rw [h6]; exact s1, s2, h8.tr s3⟩
theorem FT.tb {c : Option (α ⊕ (Ka × Cm))} {o : Option Ms} (h : FT z b K0 M S c o) (k : α → Option (β ⊕ (Ka × Cm))) : FT z b K0 M S (tb c k) o := by
  obtain ⟨f, K', M', S', h1, h2, h3⟩ := h
  exact ⟨f, K', M', S', h1, by rw [h2]; rfl, h3⟩
theorem d_nN {a : Nat} (h : DS S f) (N : Nat) (ha : a < 4002) (h7 : mF S 7 = nI a) : fM_newName N S = some (mL S 6 a, pF S 7 (nI (a + 1))) := by
  unfold fM_newName bM_newName_22
  rw [if_neg h.n0, if_neg h.n0]
  exact nn_122 N ha h7
theorem uS_ago (hb : b = 0 ∨ b = 1) (hbn : bn = 1 - b) (hu : nu < 24) (S : Ms) : AgO b S (uS S (24 * bn + nu)) := by
  have q : ∀ k, bw k = 24 → ¬ OB b k (24 * bn + nu) := fun k hk => ob_n hb hbn hk (by decide) (by omega) (by omega)
  unfold uS
  exact (((((AgO.pA (q 22 rfl) _).tr (AgO.pA (q 23 rfl) _)).tr (AgO.pA (q 25 rfl) _)).tr (AgO.pA (q 30 rfl) _)).tr (AgO.pA (q 31 rfl) _)).tr (AgO.pA (q 33 rfl) _)
/-- the reference behind a fault at or ahead of the name -/
theorem dd_uS (hb : b = 0 ∨ b = 1) (hbn : bn = 1 - b) (hu : nu < 24) (d : DS S f) (N : Nat) (x1 : Int32) (x3 : Int64) (r : Int32 → Ms → Option Ms) : (if (mA (uS S (24 * bn + nu)) 20 (24 * bn + nu)) = 0 then (bM_toldUnit_177 N x1 (nI (24 * bn + nu)) x3 (uS S (24 * bn + nu))) else ((fM_hasWord N 8 (uS S (24 * bn + nu))).bind fun o150 => if o150.1 = 0 then (bM_toldUnit_177 N x1 (nI (24 * bn + nu)) x3 o150.2) else ((fM_takeUnit N 1 o150.2).bind fun o163 => r o163.1 o163.2))) = some (uS S (24 * bn + nu)) := by
  have d' : DS (uS S (24 * bn + nu)) f := d
  have i48 : 24 * bn + nu < 48 := by omega
  by_cases y : mA (uS S (24 * bn + nu)) 20 (24 * bn + nu) = 0
  · rw [if_pos y]; exact dd_177 d' N _ i48 _
  · rw [if_neg y, d_hW d', bs]
    dsimp only
    rw [if_pos rfl]
    exact dd_177 d' N _ i48 _
theorem rl_ok (e : HE z b bn sm t nu tu K0 K1 M S) (h : HS z bn sm size t nd nu nm tu K1 M S M' S' a x1 x2 bI []) {w : Nat} (hw : w < 25) (hN : 4010 < N) (kc : Ka → Cm → Option (α ⊕ (Ka × Cm))) (y : Int64) :
    (∃ M'' S'' a'' R q, (if cI M' (z + 7) 3 = nI (128 + w) then (tb (fT_X3_readRoles N (z + 7) tu K1 M') fun o => kc o.1 o.2) else kc K1 M') = kc K1 M'' ∧ bM_toldUnit_194 N (nI nu) (nI (24 * bn + nu)) y (nI w) S' = bM_toldUnit_205 N (nI nu) (nI (24 * bn + nu)) y S'' ∧ HS z bn sm size t nd nu nm tu K1 M S M'' S'' a'' x1 x2 bI R ∧ a + q ≤ a'' ∧ (R = [] ∨ q = 2)) ∨
    FT z b K0 M S (if cI M' (z + 7) 3 = nI (128 + w) then (tb (fT_X3_readRoles N (z + 7) tu K1 M') fun o => kc o.1 o.2) else kc K1 M') (bM_toldUnit_194 N (nI nu) (nI (24 * bn + nu)) y (nI w) S') := by
  have ht := e.2.2.2.1.2
  obtain ⟨p, n0⟩ := h.1
  have k7 : kd K1 (z + 7) = 4 := p.1.k 7 4 0 rfl
  have kn : cI M' (z + 7) 3 = cI M' (z + 3) a := p.2.2.2.2.2.2.1
  unfold bM_toldUnit_194
  rcases l_hasW p N hw with ⟨y1, y2, y3⟩ | ⟨y1, y3⟩
  · have er : fT_X3_readRoles N (z + 7) tu K1 M' = lT_X3_readRoles_7 N (bT_X3_readRoles_164 N) N (z + 7) tu (cI M' (z + 7) 3) (nI 0) K1 M' := by
      unfold fT_X3_readRoles
      rw [gd_k k7]
      rfl
    have et : ∀ S9, fM_takeRoles N (nI (24 * bn + nu)) S9 = lM_takeRoles_2 N (bM_takeRoles_235 N) N (nI (24 * bn + nu)) 1 S9 := fun S9 => rfl
    rw [if_pos (kn.trans y1), y3, bs]
    dsimp only
    rw [if_neg (by decide), er, et]
    rcases rs_lp (N := N) e hN N N M' S' [] a 0 _ (by omega) (by omega) (by omega) h kn.symm y2 with ⟨M9, S9, a9, R9, v1, v2, v3, v4, v5⟩ | v
    · left
      refine ⟨M9, S9, a9, R9, 2, ?_, ?_, v5, by omega, Or.inr rfl⟩
      · rw [v1, tb_l]
      · rw [v2, bs]
    · exact Or.inr (v.go _ _ (fun S9 f d => ⟨S9, dd_205 d N _ _ _, d, AgO.rf _ _⟩))
  · left
    refine ⟨M', S', a, [], 0, by rw [if_neg (fun w => y1 (kn.symm.trans w))], ?_, h, by omega, Or.inl rfl⟩
    rw [y3, bs]
    dsimp only
    rw [if_pos rfl]
theorem c68 (p : PT z K1 M' S' size t a) (n : NN z K1 M' S' bn sm nd nu nm) {y : Int64} {K' : Ka} {M'' : Cm} (ha : fT_X5_addUnit N sm y tu K1 M' = some (.inl (K', M''))) : bT_X3_readModuleHead_68 N (z + 7) tu y K1 M' = some (.inl (tu, K', M'')) ∧ bT_X3_readRoleHead_67 N (z + 7) tu y K1 M' = some (.inl (tu, K', M'')) := by
  have k7 : kd K1 (z + 7) = 4 := p.1.k 7 4 0 rfl
  constructor
  · unfold bT_X3_readModuleHead_68
    rw [gd_k k7, nn_s n.2.2.1, gd_k n.2.2.2.1, ha, ta_l]
    rfl
  · unfold bT_X3_readRoleHead_67
    rw [gd_k k7, nn_s n.2.2.1, gd_k n.2.2.2.1, ha, ta_l]
    rfl
/-- a module behind its base -/
theorem mt_tail (he : HE z b bn sm t nu tu K0 K1 M S) {x : Int64} {p9 : Nat} {M9 : Cm} {S9 : Ms} {a9 : Nat} (g1 : HS z bn sm size t nd nu nm tu K1 M S M9 S9 a9 1 0 bI []) (g2 : bI = -1 ∨ ∃ v, v < nu ∧ bI = nI v) (g3 : a + 2 + p9 ≤ a9) (g4 : bI = -1 ∨ p9 = 2) (hN : 4010 < N) :
    HOc z b bn sm size t nd nu nm tu K0 K1 M S N a x (tb (bT_X3_readModuleHead_53 N (z + 7) tu x K1 M9) fun o39 => bT_X3_readUnit_42 N (z + 7) o39.1 o39.2.1 o39.2.2) (bM_toldUnit_177 N (nI nu) (nI (24 * bn + nu)) x S9) := by
  have hnu := he.2.2.2.1.1
  have b2 : bn < 2 := by have := he.1.2; omega
  have i48 : 24 * bn + nu < 48 := by omega
  have ci : (nI (24 * bn + nu)).toNatClampNeg = 24 * bn + nu := nI_clamp (by omega)
  have k7u : kd K1 (z + 7) = 4 := g1.1.1.1.k 7 4 0 rfl
  have h20 : mA S9 20 (24 * bn + nu) = 1 := g1.2.2.1.2.1
  have e177 : bM_toldUnit_177 N (nI nu) (nI (24 * bn + nu)) x S9 = bM_toldUnit_194 N (nI nu) (nI (24 * bn + nu)) x (nI 9) S9 := by
    unfold bM_toldUnit_177
    rw [ck_n i48 (by decide), ci, h20, if_neg (by decide)]
    rfl
  have e53 : bT_X3_readModuleHead_53 N (z + 7) tu x K1 M9 = (if cI M9 (z + 7) 3 = nI (128 + 9) then (tb (fT_X3_readRoles N (z + 7) tu K1 M9) fun o => bT_X3_readModuleHead_68 N (z + 7) tu x o.1 o.2) else bT_X3_readModuleHead_68 N (z + 7) tu x K1 M9) := by
    unfold bT_X3_readModuleHead_53
    rw [gd_k k7u]
    rfl
  rw [e177, e53]
  rcases rl_ok (N := N) he g1 (w := 9) (by decide) hN (fun K9 M9 => bT_X3_readModuleHead_68 N (z + 7) tu x K9 M9) x with ⟨M8, S8, a8, R8, q8, v1, v2, v3, v4, v5⟩ | v
  · left
    refine ⟨M8, S8, a8, 1, 0, bI, R8, p9, q8, v3, fun K' M'' hadd => ?_, v2, Or.inr rfl, Or.inl rfl, fun q => absurd q (by decide), g2, by omega, g4, v5⟩
    have v1' : (if cI M9 (z + 7) 3 = nI (128 + 9) then (tb (fT_X3_readRoles N (z + 7) tu K1 M9) fun o => bT_X3_readModuleHead_68 N (z + 7) tu x o.1 o.2) else bT_X3_readModuleHead_68 N (z + 7) tu x K1 M9) = bT_X3_readModuleHead_68 N (z + 7) tu x K1 M8 := v1
    rw [v1', (c68 v3.1.1 v3.1.2 hadd).1, tb_l]
    rfl
  · exact Or.inr (FT.tb v _)
/-- a module behind its name -/
theorem mt_ok (he : HE z b bn sm t nu tu K0 K1 M S) {x : Int64} {M2 : Cm} {S2 : Ms} {a2 : Nat} (y8 : HS z bn sm size t nd nu nm tu K1 M S M2 S2 a2 1 0 (-1) []) (ha : a + 2 ≤ a2) (hN : 4010 < N) :
    HOc z b bn sm size t nd nu nm tu K0 K1 M S N a x (tb (bT_X3_readModuleHead_24 N (z + 7) tu x K1 M2) fun o39 => bT_X3_readUnit_42 N (z + 7) o39.1 o39.2.1 o39.2.2) (if (mA S2 20 (24 * bn + nu)) = 0 then (bM_toldUnit_177 N (nI nu) (nI (24 * bn + nu)) x S2) else ((fM_hasWord N 8 S2).bind fun o150 => if o150.1 = 0 then (bM_toldUnit_177 N (nI nu) (nI (24 * bn + nu)) x o150.2) else ((fM_takeUnit N 1 o150.2).bind fun o163 => ck (nI (24 * bn + nu)) 48 (bM_toldUnit_177 N (nI nu) (nI (24 * bn + nu)) x (pF (pA o163.2 22 (24 * bn + nu) o163.1) 7 ((mF (pA o163.2 22 (24 * bn + nu) o163.1) 7) + 1)))))) := by
  have hnu := he.2.2.2.1.1
  have b2 : bn < 2 := by have := he.1.2; omega
  have i48 : 24 * bn + nu < 48 := by omega
  have k7u : kd K1 (z + 7) = 4 := y8.1.1.1.k 7 4 0 rfl
  have h20 : mA S2 20 (24 * bn + nu) = 1 := y8.2.2.1.2.1
  have kn2 : cI M2 (z + 7) 3 = cI M2 (z + 3) a2 := y8.1.1.2.2.2.2.2.2.1
  rw [h20, if_neg (by decide)]
  unfold bT_X3_readModuleHead_24
  rw [gd_k k7u]
  rcases l_hasW y8.1.1 N (w := 8) (by decide) with ⟨k1, k2, k3⟩ | ⟨k1, k3⟩
  · have k3' : fM_hasWord N 8 S2 = some (1, pF S2 7 (nI (a2 + 1))) := k3
    have k1' : cI M2 (z + 7) 3 = 136 := kn2.trans k1
    rw [if_pos k1', k3', bs]
    dsimp only
    rw [if_neg (by decide)]
    rcases bs_ok (N := N) he y8 k2 hN (fun v K9 M9 => bT_X3_readModuleHead_50 N (z + 7) tu x tu v K9 M9) (fun r S9 => ck (nI (24 * bn + nu)) 48 (bM_toldUnit_177 N (nI nu) (nI (24 * bn + nu)) x (pF (pA S9 22 (24 * bn + nu) r) 7 ((mF (pA S9 22 (24 * bn + nu) r) 7) + 1)))) (fun r S9 f d => by
        have d' : DS (pF (pA S9 22 (24 * bn + nu) r) 7 ((mF (pA S9 22 (24 * bn + nu) r) 7) + 1)) f := d
        refine ⟨_, ?_, d', (AgO.pA (ob_n he.1.1 he.1.2 (w := 24) rfl (by decide) (by omega) (by omega)) _).tr (AgO.pF o7 _)⟩
        rw [ck_n i48 (by decide)]
        exact dd_177 d' N _ i48 _) with ⟨v, v1, v2, v3, v4, v5⟩ | v
    · have v4' : ((fC_X3_moveTo N K1 (z + 7) (cI M2 (z + 7) 2 + 1) M2).bind fun o42 => tb (fT_X3_readBase N (z + 7) K1 o42) fun o47 => bT_X3_readModuleHead_50 N (z + 7) tu x tu o47.1 o47.2.1 o47.2.2) = bT_X3_readModuleHead_50 N (z + 7) tu x tu (nI v) K1 (mv z (mv z M2 (a2 + 1)) (a2 + 2)) := v4
      have v5' : ((fM_takeUnit N 1 (pF S2 7 (nI (a2 + 1)))).bind fun o163 => ck (nI (24 * bn + nu)) 48 (bM_toldUnit_177 N (nI nu) (nI (24 * bn + nu)) x (pF (pA o163.2 22 (24 * bn + nu) o163.1) 7 ((mF (pA o163.2 22 (24 * bn + nu) o163.1) 7) + 1)))) = ck (nI (24 * bn + nu)) 48 (bM_toldUnit_177 N (nI nu) (nI (24 * bn + nu)) x (pF (pA (pF S2 7 (nI (a2 + 1))) 22 (24 * bn + nu) (nI v)) 7 ((mF (pA (pF S2 7 (nI (a2 + 1))) 22 (24 * bn + nu) (nI v)) 7) + 1))) := v5
      rw [v4', v5', ck_n i48 (by decide)]
      have m7 : mF (pA (pF S2 7 (nI (a2 + 1))) 22 (24 * bn + nu) (nI v)) 7 + 1 = nI (a2 + 2) := by
        show nI (a2 + 1) + 1 = _
        rw [nI_1]
      rw [m7]
      unfold bT_X3_readModuleHead_50
      rw [gd_k y8.2.2.1.1.1]
      have hB := HS.base he (HS.mv he (HS.mv he y8 (j := a2 + 1) (by omega)) (j := a2 + 2) (by omega)) (nI v)
      have eS : pA (pF (pF S2 7 (nI (a2 + 1))) 7 (nI (a2 + 2))) 22 (24 * bn + nu) (nI v) = pF (pA (pF S2 7 (nI (a2 + 1))) 22 (24 * bn + nu) (nI v)) 7 (nI (a2 + 2)) := rfl
      rw [eS] at hB
      exact mt_tail he hB (Or.inr ⟨v, v1, rfl⟩) (p9 := 2) (by omega) (Or.inr rfl) hN
    · exact Or.inr (FT.tb v _)
  · have k3' : fM_hasWord N 8 S2 = some (0, S2) := k3
    have k1' : ¬ cI M2 (z + 7) 3 = 136 := fun w => k1 (kn2.symm.trans w)
    rw [if_neg k1', k3', bs]
    dsimp only
    rw [if_pos rfl]
    exact mt_tail he y8 (Or.inl rfl) (p9 := 0) (by omega) (Or.inl rfl) hN
/-- what a station between two units gives for a head -/
theorem TS.he {rc cc : Nat} {mk : List Mk} (h : TS z b bn sm size t K0 K M S nd nu nm mk rc cc a) (hnu : nu < 24) : HE z b bn sm t nu (kz K) K0 (uK K) M S ∧ (cR M sm 0 = some (sm + 1) ∧ cR M sm 4 = some (sm + 5) ∧ cR M sm 7 = some (sm + 8)) := by
  obtain ⟨⟨e, p, c, dd, l, h42, h38, hlast⟩, ⟨n, pu, dv, rw, dvd, dmd, und⟩, bud1, bud2, bud3, bud4⟩ := h
  have ht : t ≤ 4000 := by have := p.2.1.1; have := p.2.1.2.1; omega
  have ke := uK_ke K
  obtain ⟨p1, p2, fl, p3⟩ := pu
  have e5 := e.2.2.2.2.1
  refine ⟨⟨⟨e.1, e.2.1⟩, ⟨e.2.2.1, e.2.2.2.1, e5⟩, ⟨e.2.2.2.2.2.1.1.tr ke, by rw [uK_z]; omega, by have : ku (uK K) = ku K + 44 := rfl; omega⟩, ⟨hnu, ht⟩, ⟨p1.1, by rw [(ke.2 _ (by omega)).1]; exact p1.2.1, by rw [(ke.2 _ (by omega)).2]; exact p1.2.2.1, by rw [(ke.2 _ (by omega)).2]; exact p1.2.2.2⟩, fun u hu => ?_⟩, (dv.2.2 0 23 (by decide)).1, (rw.1 4 23 (by decide)).1, (rw.2 7 23 (by decide)).1⟩
  obtain ⟨⟨tw, a1, a2, a3⟩, a4⟩ := p3 u hu
  obtain ⟨w1, w2, w3, w4, w5, w6, -⟩ := a1
  exact ⟨tw, w1, by rw [(ke.2 _ (by omega)).1]; exact w3, by omega, w5, w6⟩
theorem vpn0 : vp_nar .boolean (0 : Int32) = 0 := by decide
theorem vpn1 : vp_nar .boolean (1 : Int32) = 1 := by decide
theorem mh_ok {rc cc : Nat} {mk : List Mk} (h : TS z b bn sm size t K0 K M S nd nu nm mk rc cc a) (hk : cI M (z + 3) a = 135) (hnu : nu < 24) (hN : 4010 < N) : HO z b bn sm size t nd nu nm K0 K M S N a := by
  obtain ⟨he, hr⟩ := h.he hnu
  obtain ⟨⟨e, p, c, dd, l, h42, h38, hlast⟩, ⟨n, pu, dv, rw, dvd, dmd, und⟩, bud1, bud2, bud3, bud4⟩ := id h
  obtain ⟨n1, n2, n3, n4, n5, n6, n7, n8, n9, n10, n11, -⟩ := id n
  have hz : z + 174 ≤ sm := by have := e.2.2.1; have := e.2.2.2.1; omega
  have e5 := e.2.2.2.2.1
  have ht : t ≤ 4000 := he.2.2.2.1.2
  have hl : a < t := p.lt (by rw [hk]; decide)
  have k7 : kd K (z + 7) = 4 := p.1.k 7 4 0 rfl
  have b2 : bn < 2 := by omega
  have i48 : 24 * bn + nu < 48 := by omega
  have ci : (nI (24 * bn + nu)).toNatClampNeg = 24 * bn + nu := nI_clamp (by omega)
  have kn : cI M (z + 7) 3 = cI M (z + 3) a := p.2.2.2.2.2.2.1
  -- the class
  have p4 : PT z K (wI M (z + 7) 4 (nI nu)) S size t a := p.s4 _
  have cls : fT_X3_readUnit N (z + 7) K M = tb (tb (fT_X3_takeNewName N (z + 7) (uK K) (uM (mv z (wI M (z + 7) 4 (nI nu)) (a + 1)) (kz K) 1 0)) fun o21 => bT_X3_readModuleHead_24 N (z + 7) (kz K) o21.1 o21.2.1 o21.2.2) fun o39 => bT_X3_readUnit_42 N (z + 7) o39.1 o39.2.1 o39.2.2 := by
    unfold fT_X3_readUnit bT_X3_readUnit_17
    have i3 : cI (wI M (z + 7) 4 (nI nu)) (z + 7) 3 = 135 := by rw [cI_w, if_neg (by omega), kn]; exact hk
    have i2 : cI (wI M (z + 7) 4 (nI nu)) (z + 7) 2 = nI a := p4.2.2.2.2.2.1
    rw [gd_k k7, nn_s n3, gd_k n4, n10, if_pos (show nI nu < 24 from nI_lt (b := 24) hnu (by decide)), gd_k k7, nn_s n3, gd_k n4, n10, if_pos i3]
    congr 1
    unfold fT_X3_readModuleHead bT_X3_readModuleHead_13 bT_X3_readModuleHead_19
    have k7u : kd (uK K) (z + 7) = 4 := by rw [((uK_ke K).2 _ (by omega)).1]; exact k7
    rw [gd_k k7, i2, nI_1, mv_ok p4.1 p4.2.1 N (by omega), bs, ui_ok N K _ (Or.inr rfl) (Or.inl rfl), ta_l]
    dsimp only
    rw [gd_k k7u]
  -- the reference
  have w4 : fM_hasWord N 4 S = some (0, S) := by
    rcases l_hasW p N (w := 4) (by decide) with ⟨y1, -⟩ | ⟨-, y⟩
    · rw [hk] at y1; exact absurd y1 (by decide)
    · exact y
  have pA1 : PT z K M (pA S 21 (24 * bn + nu) 0) size t a := p.sA (by decide) (by decide) _ _
  have w7' : fM_isWord N 7 (pA S 21 (24 * bn + nu) 0) = some (1, pA S 21 (24 * bn + nu) 0) := by
    rcases k_word pA1 N (w := 7) (by decide) with ⟨-, y⟩ | ⟨y1, -⟩
    · exact y
    · exact absurd hk y1
  have pA2 : PT z K M (pA (pA S 21 (24 * bn + nu) 0) 20 (24 * bn + nu) 1) size t a := pA1.sA (by decide) (by decide) _ _
  have w7'' : fM_takeWord N 7 (pA (pA S 21 (24 * bn + nu) 0) 20 (24 * bn + nu) 1) = some (pF (pA (pA S 21 (24 * bn + nu) 0) 20 (24 * bn + nu) 1) 7 (nI (a + 1))) := by
    rcases l_word pA2 N (w := 7) (by decide) with ⟨-, -, -, y⟩ | ⟨f, f1, f2, f3⟩
    · exact y
    · exfalso
      have := f2
      unfold fT_X3_take bT_X3_take_13 at this
      rw [gd_k k7, if_pos (show cI M (z + 7) 3 = nI (128 + 7) from kn.trans hk), gd_k k7, p.2.2.2.2.2.1, nI_1, mv_ok p.1 p.2.1 N (by omega)] at this
      cases this
  have ref : fM_toldUnit N S = (fM_newName N (pF (pA (pA S 21 (24 * bn + nu) 0) 20 (24 * bn + nu) 1) 7 (nI (a + 1)))).bind fun o92 => (if (mA (uS o92.2 (24 * bn + nu)) 20 (24 * bn + nu)) = 0 then (bM_toldUnit_177 N (nI nu) (nI (24 * bn + nu)) o92.1 (uS o92.2 (24 * bn + nu))) else ((fM_hasWord N 8 (uS o92.2 (24 * bn + nu))).bind fun o150 => if o150.1 = 0 then (bM_toldUnit_177 N (nI nu) (nI (24 * bn + nu)) o92.1 o150.2) else ((fM_takeUnit N 1 o150.2).bind fun o163 => ck (nI (24 * bn + nu)) 48 (bM_toldUnit_177 N (nI nu) (nI (24 * bn + nu)) o92.1 (pF (pA o163.2 22 (24 * bn + nu) o163.1) 7 ((mF (pA o163.2 22 (24 * bn + nu) o163.1) 7) + 1)))))) := by
    unfold fM_toldUnit
    rw [n2, ck_n b2 (by decide), nI_clamp (show bn < 2 ^ 31 by omega), n11, if_neg (show ¬ nI nu = 24 from fun q => by have := (nI_eq (b := 24) (by omega) (by decide)).mp q; omega), w4, bs, e24b, nI_add, ck_n i48 (by decide), ck_n i48 (by decide), ci]
    dsimp only
    have h21 : mA (pA S 21 (24 * bn + nu) 0) 21 (24 * bn + nu) = 0 := by rw [mA_A, if_pos ⟨rfl, rfl⟩]
    have h20 : mA (pA (pA S 21 (24 * bn + nu) 0) 20 (24 * bn + nu) 1) 20 (24 * bn + nu) = 1 := by rw [mA_A, if_pos ⟨rfl, rfl⟩]
    rw [vpn0, h21, if_pos rfl, w7', bs]
    dsimp only
    rw [if_neg (by decide)]
    unfold bM_toldUnit_71
    rw [ck_n i48 (by decide), ck_n i48 (by decide), ci, vpn1, h20, if_neg (by decide)]
    unfold bM_toldUnit_88
    rw [w7'', bs]
    congr 1
    funext o92
    simp only [ck_n i48 (show (48 : Nat) < 2 ^ 31 by decide), ci]
    rfl
  rw [HO, cls, ref]
  have pB := p4.mv (j := a + 1) (by omega)
  have pC : PT z K (mv z (wI M (z + 7) 4 (nI nu)) (a + 1)) (pF (pA (pA S 21 (24 * bn + nu) 0) 20 (24 * bn + nu) 1) 7 (nI (a + 1))) size t (a + 1) := (p4.sA (k := 21) (by decide) (by decide) _ _ |>.sA (k := 20) (by decide) (by decide) _ _).mv (by omega)
  have nC : NN z K (mv z (wI M (z + 7) 4 (nI nu)) (a + 1)) (pF (pA (pA S 21 (24 * bn + nu) 0) 20 (24 * bn + nu) 1) 7 (nI (a + 1))) bn sm nd nu nm := ((n.s4 (by omega) (nI nu)).pA (k := 21) (by decide) (by decide) (by decide) |>.pA (k := 20) (by decide) (by decide) (by decide)).mv (by omega) _ _
  have hF : HFr (24 * bn + nu) S (pF (pA (pA S 21 (24 * bn + nu) 0) 20 (24 * bn + nu) 1) 7 (nI (a + 1))) := ((HFr.pA (k := 20) (Or.inl ⟨Or.inl ⟨by decide, by decide⟩, rfl⟩) (HFr.pA (k := 21) (S := S) (S' := S) (Or.inl ⟨Or.inl ⟨by decide, by decide⟩, rfl⟩) ⟨fun _ _ => rfl, fun _ _ _ => rfl, rfl⟩))).p7 _
  rcases hs_0 (N := N) (x1 := 1) (x2 := 0) he pC nC (by omega) hr (fun q hq => by rw [mv_I _ hq, cI_wI_ne _ _ _ hq]) (fun s s2 s3 s4 => by rw [mv_o _ s2 s3, cI_w, if_neg (fun y => s4 y.2)]) (by rw [mv_o _ (by decide) (by decide), cI_w, if_pos ⟨rfl, rfl⟩]) rfl rfl (Or.inr rfl) (Or.inl rfl) hF (by show mA (pA (pA S 21 (24 * bn + nu) 0) 20 (24 * bn + nu) 1) 20 (24 * bn + nu) = 1; rw [mA_A, if_pos ⟨rfl, rfl⟩]) (by show mA (pA (pA S 21 (24 * bn + nu) 0) 20 (24 * bn + nu) 1) 21 (24 * bn + nu) = 0; rw [mA_Ane _ _ _ (by decide), mA_A, if_pos ⟨rfl, rfl⟩]) (by omega) with ⟨x, y1, y2, y3, y4, y5, y6, y7, y8⟩ | ⟨f, y1, y2, y3, y4⟩
  · left
    refine ⟨x, ⟨y2, y3, y4, y5⟩, ?_⟩
    rw [y6, y7, tb_l, bs]
    exact mt_ok he y8 (by omega) hN
  · right
    rw [y2, tb_r, tb_r, y3, bs]
    dsimp only
    refine ⟨f, uK K, _, _, y1, rfl, he.2.2.1, y4, by rw [cI_w, if_pos ⟨rfl, rfl⟩], dd_uS e.1 e.2.1 hnu (f := f) ⟨y1, rfl⟩ N _ _ (fun r S9 => ck (nI (24 * bn + nu)) 48 (bM_toldUnit_177 N (nI nu) (nI (24 * bn + nu)) _ (pF (pA S9 22 (24 * bn + nu) r) 7 ((mF (pA S9 22 (24 * bn + nu) r) 7) + 1)))), ⟨y1, rfl⟩, ?_⟩
    exact (((hF.ago e.1 e.2.1 hnu).tr (AgO.pF o8 _)).tr (AgO.pF o7 _)).tr (uS_ago e.1 e.2.1 hnu _)
end HEADS
