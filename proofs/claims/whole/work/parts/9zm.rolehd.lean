/-! heads of roles read by both -/
section ROLEHD
variable {N z b bn sm size t nd nu nm tu : Nat} {K0 K K1 : Ka} {M M' M4 : Cm} {S S' S0 : Ms} {a a0 : Nat} {x1 x2 bI : Int32} {R : List Nat} {f r : Nat} {α β : Type}
theorem rt_ok (he : HE z b bn sm t nu tu K0 K1 M S) {x : Int64} {M2 : Cm} {S2 : Ms} {a2 : Nat} (g1 : HS z bn sm size t nd nu nm tu K1 M S M2 S2 a2 0 x2 (-1) []) (h2 : x2 = 0 ∨ x2 = 1) (ha : a + 2 ≤ a2) (hN : 4010 < N) (r : Int32 → Ms → Option Ms) :
    HOc z b bn sm size t nd nu nm tu K0 K1 M S N a x (tb (bT_X3_readRoleHead_51 N (z + 7) tu x K1 M2) fun o46 => bT_X3_readUnit_49 N (z + 7) o46.1 o46.2.1 o46.2.2) (if (mA S2 20 (24 * bn + nu)) = 0 then (bM_toldUnit_177 N (nI nu) (nI (24 * bn + nu)) x S2) else ((fM_hasWord N 8 S2).bind fun o150 => if o150.1 = 0 then (bM_toldUnit_177 N (nI nu) (nI (24 * bn + nu)) x o150.2) else ((fM_takeUnit N 1 o150.2).bind fun o163 => r o163.1 o163.2))) := by
  have hnu := he.2.2.2.1.1
  have b2 : bn < 2 := by have := he.1.2; omega
  have i48 : 24 * bn + nu < 48 := by omega
  have ci : (nI (24 * bn + nu)).toNatClampNeg = 24 * bn + nu := nI_clamp (by omega)
  have k7u : kd K1 (z + 7) = 4 := g1.1.1.1.k 7 4 0 rfl
  have h20 : mA S2 20 (24 * bn + nu) = 0 := g1.2.2.1.2.1
  rw [if_pos h20]
  have e177 : bM_toldUnit_177 N (nI nu) (nI (24 * bn + nu)) x S2 = bM_toldUnit_194 N (nI nu) (nI (24 * bn + nu)) x (nI 6) S2 := by
    unfold bM_toldUnit_177
    rw [ck_n i48 (by decide), ci, h20, if_pos rfl]
    rfl
  have e53 : bT_X3_readRoleHead_51 N (z + 7) tu x K1 M2 = (if cI M2 (z + 7) 3 = nI (128 + 6) then (tb (fT_X3_readRoles N (z + 7) tu K1 M2) fun o => bT_X3_readRoleHead_67 N (z + 7) tu x o.1 o.2) else bT_X3_readRoleHead_67 N (z + 7) tu x K1 M2) := by
    unfold bT_X3_readRoleHead_51
    rw [gd_k k7u]
    rfl
  rw [e177, e53]
  rcases rl_ok (N := N) he g1 (w := 6) (by decide) hN (fun K9 M9 => bT_X3_readRoleHead_67 N (z + 7) tu x K9 M9) x with ⟨M8, S8, a8, R8, q8, v1, v2, v3, v4, v5⟩ | v
  · left
    refine ⟨M8, S8, a8, 0, x2, -1, R8, 0, q8, v3, fun K' M'' hadd => ?_, v2, Or.inl rfl, h2, fun _ => rfl, Or.inl rfl, by omega, Or.inl rfl, v5⟩
    have v1' : (if cI M2 (z + 7) 3 = nI (128 + 6) then (tb (fT_X3_readRoles N (z + 7) tu K1 M2) fun o => bT_X3_readRoleHead_67 N (z + 7) tu x o.1 o.2) else bT_X3_readRoleHead_67 N (z + 7) tu x K1 M2) = bT_X3_readRoleHead_67 N (z + 7) tu x K1 M8 := v1
    rw [v1', (c68 v3.1.1 v3.1.2 hadd).2, tb_l]
  · exact Or.inr (FT.tb v _)
/-- the reference from the word of a unit on -/
theorem e88 (hu : 24 * bn + nu < 48) (N : Nat) (x1 s1 : Int32) (S : Ms) : bM_toldUnit_88 N x1 (nI (24 * bn + nu)) s1 S = (fM_takeWord N s1 S).bind fun o88 => (fM_newName N o88).bind fun o92 => (if (mA (uS o92.2 (24 * bn + nu)) 20 (24 * bn + nu)) = 0 then (bM_toldUnit_177 N x1 (nI (24 * bn + nu)) o92.1 (uS o92.2 (24 * bn + nu))) else ((fM_hasWord N 8 (uS o92.2 (24 * bn + nu))).bind fun o150 => if o150.1 = 0 then (bM_toldUnit_177 N x1 (nI (24 * bn + nu)) o92.1 o150.2) else ((fM_takeUnit N 1 o150.2).bind fun o163 => ck (nI (24 * bn + nu)) 48 (bM_toldUnit_177 N x1 (nI (24 * bn + nu)) o92.1 (pF (pA o163.2 22 (24 * bn + nu) o163.1) 7 ((mF (pA o163.2 22 (24 * bn + nu) o163.1) 7) + 1)))))) := by
  have ci : (nI (24 * bn + nu)).toNatClampNeg = 24 * bn + nu := nI_clamp (by omega)
  unfold bM_toldUnit_88
  congr 1
  funext o88
  congr 1
  funext o92
  simp only [ck_n hu (show (48 : Nat) < 2 ^ 31 by decide), ci]
  rfl
theorem rh_tail (he : HE z b bn sm t nu (kz K) K0 (uK K) M S) (p : PT z K M4 S0 size t a0) (n : NN z K M4 S0 bn sm nd nu nm) (hz : z + 174 ≤ kz K) (hr : cR M sm 0 = some (sm + 1) ∧ cR M sm 4 = some (sm + 5) ∧ cR M sm 7 = some (sm + 8)) (ke : KB K0 K) (hI : ∀ q, q ≠ z + 7 → cI M4 q = cI M q) (h7 : ∀ s, s ≠ 2 → s ≠ 3 → s ≠ 4 → cI M4 (z + 7) s = cI M (z + 7) s) (h4 : cI M4 (z + 7) 4 = nI nu) (hL : cL M4 = cL M) (hR : cR M4 = cR M)
    (h2 : x2 = 0 ∨ x2 = 1) (hF : HFr (24 * bn + nu) S S0) (h20 : mA S0 20 (24 * bn + nu) = 0) (h21 : mA S0 21 (24 * bn + nu) = x2) (ha : a ≤ a0) (hN : 4010 < N) :
    (∃ x, FRS bn nd nu nm S x ∧ HOc z b bn sm size t nd nu nm (kz K) K0 (uK K) M S N a x (tb (bT_X3_readRoleHead_30 N (z + 7) x2 K M4) fun o46 => bT_X3_readUnit_49 N (z + 7) o46.1 o46.2.1 o46.2.2) (bM_toldUnit_88 N (nI nu) (nI (24 * bn + nu)) 5 S0)) ∨ FT z b K0 M S (tb (bT_X3_readRoleHead_30 N (z + 7) x2 K M4) fun o46 => bT_X3_readUnit_49 N (z + 7) o46.1 o46.2.1 o46.2.2) (bM_toldUnit_88 N (nI nu) (nI (24 * bn + nu)) 5 S0) := by
  have hh := HS.hz he
  have hnu := he.2.2.2.1.1
  have ht := he.2.2.2.1.2
  have b2 : bn < 2 := by have := he.1.2; omega
  have i48 : 24 * bn + nu < 48 := by omega
  have k7 : kd K (z + 7) = 4 := p.1.k 7 4 0 rfl
  have k7u : kd (uK K) (z + 7) = 4 := by rw [((uK_ke K).2 _ (by omega)).1]; exact k7
  rw [e88 i48]
  unfold bT_X3_readRoleHead_30
  rw [gd_k k7]
  rcases l_word p N (w := 5) (by decide) with ⟨y1, y2, y3, y4⟩ | ⟨f, f1, f2, f3⟩
  · have y3' : fT_X3_take N (z + 7) 133 K M4 = some (.inl (K, mv z M4 (a0 + 1))) := y3
    have y4' : fM_takeWord N 5 S0 = some (pF S0 7 (nI (a0 + 1))) := y4
    rw [y3', tb_l, y4', bs]
    unfold bT_X3_readRoleHead_37 bT_X3_readRoleHead_40 bT_X3_readRoleHead_46
    dsimp only
    rw [ui_ok N K _ (Or.inl rfl) h2, ta_l]
    dsimp only
    rw [gd_k k7u]
    rcases hs_0 (N := N) (x1 := 0) (x2 := x2) he (p.mv (j := a0 + 1) (by omega)) (n.mv (by omega) (a0 + 1) (nI (a0 + 1))) hz hr (fun q hq => by rw [mv_I _ hq]; exact hI q hq) (fun s s2 s3 s4 => by rw [mv_o _ s2 s3]; exact h7 s s2 s3 s4) (by rw [mv_o _ (by decide) (by decide)]; exact h4) hL hR (Or.inl rfl) h2 (hF.p7 _) h20 h21 (by omega) with ⟨x, w1, w2, w3, w4, w5, w6, w7, w8⟩ | ⟨f, w1, w2, w3, w4⟩
    · left
      refine ⟨x, ⟨w2, w3, w4, w5⟩, ?_⟩
      rw [w6, tb_l, w7, bs]
      exact rt_ok (a := a) (x := x) he w8 h2 (by omega) hN (fun r S9 => ck (nI (24 * bn + nu)) 48 (bM_toldUnit_177 N (nI nu) (nI (24 * bn + nu)) x (pF (pA S9 22 (24 * bn + nu) r) 7 ((mF (pA S9 22 (24 * bn + nu) r) 7) + 1))))
    · right
      rw [w2, tb_r, tb_r, w3, bs]
      dsimp only
      refine ⟨f, uK K, _, _, w1, rfl, he.2.2.1, w4, by rw [cI_w, if_pos ⟨rfl, rfl⟩], dd_uS he.1.1 he.1.2 hnu (f := f) ⟨w1, rfl⟩ N _ _ (fun r S9 => ck (nI (24 * bn + nu)) 48 (bM_toldUnit_177 N (nI nu) (nI (24 * bn + nu)) _ (pF (pA S9 22 (24 * bn + nu) r) 7 ((mF (pA S9 22 (24 * bn + nu) r) 7) + 1)))), ⟨w1, rfl⟩, ?_⟩
      exact ((((hF.p7 _).ago he.1.1 he.1.2 hnu).tr (AgO.pF o8 _)).tr (AgO.pF o7 _)).tr (uS_ago he.1.1 he.1.2 hnu _)
  · right
    have f2' : fT_X3_take N (z + 7) 133 K M4 = some (.inr (K, wI M4 (z + 7) 5 (nI f))) := f2
    have f3' : fM_takeWord N 5 S0 = some (pF S0 8 (nI f)) := f3
    have d : DS (pF S0 8 (nI f)) f := ⟨f1, rfl⟩
    have hp := p.2.2.1
    rw [f2', tb_r, tb_r, f3', bs, d_nN d N (show a0 < 4002 by omega) p.2.2.2.1, bs]
    dsimp only
    refine ⟨f, K, _, _, f1, rfl, ke, ⟨fun q q1 q2 => ⟨by rw [cI_wI_ne _ _ _ q2]; exact hI q q2, by rw [cL_I, hL]⟩, fun q s _ _ => by rw [cR_I, hR]⟩, by rw [cI_w, if_pos ⟨rfl, rfl⟩], dd_uS he.1.1 he.1.2 hnu (f := f) ⟨f1, rfl⟩ N _ _ (fun r S9 => ck (nI (24 * bn + nu)) 48 (bM_toldUnit_177 N (nI nu) (nI (24 * bn + nu)) _ (pF (pA S9 22 (24 * bn + nu) r) 7 ((mF (pA S9 22 (24 * bn + nu) r) 7) + 1)))), ⟨f1, rfl⟩, ?_⟩
    exact (((hF.ago he.1.1 he.1.2 hnu).tr (AgO.pF o8 _)).tr (AgO.pF o7 _)).tr (uS_ago he.1.1 he.1.2 hnu _)
theorem rh_ok {rc cc : Nat} {mk : List Mk} (h : TS z b bn sm size t K0 K M S nd nu nm mk rc cc a) (hk : cI M (z + 3) a = 132 ∨ cI M (z + 3) a = 133) (hnu : nu < 24) (hN : 4010 < N) : HO z b bn sm size t nd nu nm K0 K M S N a := by
  obtain ⟨he, hr⟩ := h.he hnu
  obtain ⟨⟨e, p, c, dd, l, h42, h38, hlast⟩, ⟨n, pu, dv, rw, dvd, dmd, und⟩, bud1, bud2, bud3, bud4⟩ := id h
  obtain ⟨n1, n2, n3, n4, n5, n6, n7, n8, n9, n10, n11, -⟩ := id n
  have hz : z + 174 ≤ sm := by have := e.2.2.1; have := e.2.2.2.1; omega
  have e5 := e.2.2.2.2.1
  have ht : t ≤ 4000 := he.2.2.2.1.2
  have hl : a < t := p.lt (by rcases hk with q | q <;> (rw [q]; decide))
  have k7 : kd K (z + 7) = 4 := p.1.k 7 4 0 rfl
  have b2 : bn < 2 := by omega
  have i48 : 24 * bn + nu < 48 := by omega
  have ci : (nI (24 * bn + nu)).toNatClampNeg = 24 * bn + nu := nI_clamp (by omega)
  have kn : cI M (z + 7) 3 = cI M (z + 3) a := p.2.2.2.2.2.2.1
  have p4 : PT z K (wI M (z + 7) 4 (nI nu)) S size t a := p.s4 _
  have n4' := n.s4 (by omega) (nI nu)
  have i3 : cI (wI M (z + 7) 4 (nI nu)) (z + 7) 3 = cI M (z + 3) a := by rw [cI_w, if_neg (by omega), kn]
  have i2 : cI (wI M (z + 7) 4 (nI nu)) (z + 7) 2 = nI a := p4.2.2.2.2.2.1
  have n135 : ¬ cI M (z + 3) a = 135 := by rcases hk with q | q <;> (rw [q]; decide)
  have cls0 : fT_X3_readUnit N (z + 7) K M = tb (fT_X3_readRoleHead N (z + 7) K (wI M (z + 7) 4 (nI nu))) fun o46 => bT_X3_readUnit_49 N (z + 7) o46.1 o46.2.1 o46.2.2 := by
    unfold fT_X3_readUnit bT_X3_readUnit_17
    rw [gd_k k7, nn_s n3, gd_k n4, n10, if_pos (show nI nu < 24 from nI_lt (b := 24) hnu (by decide)), gd_k k7, nn_s n3, gd_k n4, n10, if_neg (by rw [i3]; exact n135)]
  have hF0 : HFr (24 * bn + nu) S S := ⟨fun _ _ => rfl, fun _ _ _ => rfl, rfl⟩
  have ref0 : ∀ {v : Int32} {Sx : Ms}, fM_hasWord N 4 S = some (v, Sx) → v = 0 ∨ v = 1 → fM_toldUnit N S = (if v = 0 then ((fM_isWord N 7 (pA Sx 21 (24 * bn + nu) v)).bind fun o60 => if o60.1 = 0 then (bM_toldUnit_70 N (nI nu) (nI (24 * bn + nu)) (nI (24 * bn + nu)) o60.2) else (bM_toldUnit_71 N (nI nu) (nI (24 * bn + nu)) (nI (24 * bn + nu)) 1 o60.2)) else bM_toldUnit_70 N (nI nu) (nI (24 * bn + nu)) (nI (24 * bn + nu)) (pA Sx 21 (24 * bn + nu) v)) := fun {v Sx} hv h01 => by
    have h21 : mA (pA Sx 21 (24 * bn + nu) v) 21 (24 * bn + nu) = v := by rw [mA_A, if_pos ⟨rfl, rfl⟩]
    have vp : vp_nar .boolean v = v := by rcases h01 with rfl | rfl <;> decide
    unfold fM_toldUnit
    rw [n2, ck_n b2 (by decide), nI_clamp (show bn < 2 ^ 31 by omega), n11, if_neg (show ¬ nI nu = 24 from fun q => by have := (nI_eq (b := 24) (by omega) (by decide)).mp q; omega), hv, bs, e24b, nI_add, ck_n i48 (by decide), ck_n i48 (by decide), ci]
    dsimp only
    rw [vp, h21]
  have ref70 : ∀ S9 : Ms, bM_toldUnit_70 N (nI nu) (nI (24 * bn + nu)) (nI (24 * bn + nu)) S9 = bM_toldUnit_88 N (nI nu) (nI (24 * bn + nu)) 5 (pA S9 20 (24 * bn + nu) 0) := fun S9 => by
    have h20 : mA (pA S9 20 (24 * bn + nu) 0) 20 (24 * bn + nu) = 0 := by rw [mA_A, if_pos ⟨rfl, rfl⟩]
    unfold bM_toldUnit_70 bM_toldUnit_71
    rw [ck_n i48 (by decide), ck_n i48 (by decide), ci, vpn0, h20, if_pos rfl]
  have fin : ∀ {v : Int32} {Sx : Ms}, mA (pA (pA Sx 21 (24 * bn + nu) v) 20 (24 * bn + nu) 0) 20 (24 * bn + nu) = 0 ∧ mA (pA (pA Sx 21 (24 * bn + nu) v) 20 (24 * bn + nu) 0) 21 (24 * bn + nu) = v := fun {v Sx} => ⟨by rw [mA_A, if_pos ⟨rfl, rfl⟩], by rw [mA_Ane _ _ _ (by decide), mA_A, if_pos ⟨rfl, rfl⟩]⟩
  rw [HO, cls0]
  rcases hk with q | q
  · -- acting
    have w4 : fM_hasWord N 4 S = some (1, pF S 7 (nI (a + 1))) := by
      rcases l_hasW p N (w := 4) (by decide) with ⟨-, -, y⟩ | ⟨y1, -⟩
      · exact y
      · exact absurd q y1
    have c15 : fT_X3_readRoleHead N (z + 7) K (wI M (z + 7) 4 (nI nu)) = bT_X3_readRoleHead_30 N (z + 7) 1 K (mv z (wI M (z + 7) 4 (nI nu)) (a + 1)) := by
      unfold fT_X3_readRoleHead bT_X3_readRoleHead_15
      rw [gd_k k7, if_pos (i3.trans q), if_neg (by decide), gd_k k7, i2, nI_1, mv_ok p4.1 p4.2.1 N (by omega), bs]
    rw [c15, ref0 w4 (Or.inr rfl), if_neg (by decide), ref70]
    have pC := ((p4.mv (j := a + 1) (by omega)).sA (k := 21) (by decide) (by decide) (24 * bn + nu) 1).sA (k := 20) (by decide) (by decide) (24 * bn + nu) 0
    have nC := (((n4'.mv (by omega) (a + 1) (nI (a + 1))).pA (k := 21) (i := 24 * bn + nu) (v := 1) (by decide) (by decide) (by decide))).pA (k := 20) (i := 24 * bn + nu) (v := 0) (by decide) (by decide) (by decide)
    exact rh_tail he pC nC (by omega) hr e.2.2.2.2.2.1 (fun q hq => by rw [mv_I _ hq, cI_wI_ne _ _ _ hq]) (fun s s2 s3 s4 => by rw [mv_o _ s2 s3, cI_w, if_neg (fun y => s4 y.2)]) (by rw [mv_o _ (by decide) (by decide), cI_w, if_pos ⟨rfl, rfl⟩]) rfl rfl (Or.inr rfl) (HFr.pA (k := 20) (Or.inl ⟨Or.inl ⟨by decide, by decide⟩, rfl⟩) (HFr.pA (k := 21) (Or.inl ⟨Or.inl ⟨by decide, by decide⟩, rfl⟩) (hF0.p7 _))) fin.1 fin.2 (by omega) hN
  · have w4 : fM_hasWord N 4 S = some (0, S) := by
      rcases l_hasW p N (w := 4) (by decide) with ⟨y1, -⟩ | ⟨-, y⟩
      · rw [q] at y1; exact absurd y1 (by decide)
      · exact y
    have pA1 : PT z K M (pA S 21 (24 * bn + nu) 0) size t a := p.sA (by decide) (by decide) _ _
    have w7' : fM_isWord N 7 (pA S 21 (24 * bn + nu) 0) = some (0, pA S 21 (24 * bn + nu) 0) := by
      rcases k_word pA1 N (w := 7) (by decide) with ⟨y1, -⟩ | ⟨-, y⟩
      · rw [q] at y1; exact absurd y1 (by decide)
      · exact y
    have c15 : fT_X3_readRoleHead N (z + 7) K (wI M (z + 7) 4 (nI nu)) = bT_X3_readRoleHead_30 N (z + 7) 0 K (wI M (z + 7) 4 (nI nu)) := by
      unfold fT_X3_readRoleHead bT_X3_readRoleHead_15
      rw [gd_k k7, if_neg (by rw [i3, q]; decide), if_pos rfl]
    rw [c15, ref0 w4 (Or.inl rfl), if_pos rfl, w7', bs]
    dsimp only
    rw [if_pos rfl, ref70]
    have pC := (p4.sA (k := 21) (by decide) (by decide) (24 * bn + nu) 0).sA (k := 20) (by decide) (by decide) (24 * bn + nu) 0
    have nC := (n4'.pA (k := 21) (i := 24 * bn + nu) (v := 0) (by decide) (by decide) (by decide)).pA (k := 20) (i := 24 * bn + nu) (v := 0) (by decide) (by decide) (by decide)
    exact rh_tail he pC nC (by omega) hr e.2.2.2.2.2.1 (fun q hq => by rw [cI_wI_ne _ _ _ hq]) (fun s s2 s3 s4 => by rw [cI_w, if_neg (fun y => s4 y.2)]) (by rw [cI_w, if_pos ⟨rfl, rfl⟩]) rfl rfl (Or.inl rfl) (HFr.pA (k := 20) (Or.inl ⟨Or.inl ⟨by decide, by decide⟩, rfl⟩) (HFr.pA (k := 21) (Or.inl ⟨Or.inl ⟨by decide, by decide⟩, rfl⟩) hF0)) fin.1 fin.2 (by omega) hN
end ROLEHD
