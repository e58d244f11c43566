/-! a unit's base and name read by both -/
section UNAME
variable {N z b bn sm size t nd nu nm tu : Nat} {K0 K K1 : Ka} {M M' Mb : Cm} {S S' S1 : Ms} {a a1 : Nat} {x1 x2 bI : Int32} {R : List Nat} {f r : Nat} {α : Type}
theorem HS.base (e : HE z b bn sm t nu tu K0 K1 M S) (h : HS z bn sm size t nd nu nm tu K1 M S M' S' a x1 x2 bI R) (v : Int32) :
    HS z bn sm size t nd nu nm tu K1 M S (wI M' tu 6 v) (pA S' 22 (24 * bn + nu) v) a x1 x2 v R := by
  have hz := HS.hz e
  obtain ⟨⟨p, n⟩, ⟨c, f⟩, ⟨o, u⟩, q⟩ := h
  refine ⟨⟨(p.wI (by omega)).sA (by decide) (by decide) _ _, (n.wI (by omega)).pA (by decide) (by decide) (by decide)⟩, ⟨c.wI (by omega) (by omega), f.pA (Or.inl ⟨Or.inl ⟨by decide, by decide⟩, rfl⟩)⟩, ⟨?_, ?_⟩, q⟩
  · obtain ⟨o1, o2, o3, o4, o5, o6, o7', o8', o9, o10, o11⟩ := o
    have i0 : ∀ s, s ≠ 6 → cI (wI M' tu 6 v) tu s = cI M' tu s := fun s hs => by rw [cI_w, if_neg (fun y => hs y.2)]
    exact ⟨o1, o2, by rw [i0 0 (by decide)]; exact o3, by rw [i0 1 (by decide)]; exact o4, by rw [cI_w, if_pos ⟨rfl, rfl⟩], by rw [i0 7 (by decide)]; exact o6, by rw [i0 8 (by decide)]; exact o7', by rw [i0 9 (by decide)]; exact o8', by rw [i0 13 (by decide)]; exact o9, fun j hj => by rw [cI_wI_ne _ _ _ (by omega)]; exact o10 j hj, fun s => by rw [cI_wI_ne _ _ _ (by omega)]; exact o11 s⟩
  · obtain ⟨u1, u2, u3, u4, u5, u6, u7, u8, u9⟩ := u
    have s0 : ∀ k, k ≠ 22 → mA (pA S' 22 (24 * bn + nu) v) k = mA S' k := fun k h1 => mA_Ane _ _ _ h1
    exact ⟨by rw [s0 20 (by decide)]; exact u1, by rw [s0 21 (by decide)]; exact u2, by rw [mA_A, if_pos ⟨rfl, rfl⟩], by rw [s0 23 (by decide)]; exact u4, by rw [s0 24 (by decide)]; exact u5, by rw [s0 25 (by decide)]; exact u6, by rw [s0 30 (by decide)]; exact u7, by rw [s0 31 (by decide)]; exact u8, by rw [s0 33 (by decide)]; exact u9⟩
/-- a base read by both; xs: what the class goes on with -/
theorem bs_ok (e : HE z b bn sm t nu tu K0 K1 M S) (h : HS z bn sm size t nd nu nm tu K1 M S M' S' a x1 x2 bI R) (hl : a < t) (hN : 4010 < N) (kc : Int32 → Ka → Cm → Option (α ⊕ (Ka × Cm))) (kr : Int32 → Ms → Option Ms) (hkr : ∀ x S9 f, DS S9 f → ∃ S8, kr x S9 = some S8 ∧ DS S8 f ∧ AgO b S9 S8) :
    (∃ v, v < nu ∧ a + 2 ≤ t ∧ mA S 20 (24 * bn + v) = 1 ∧ ((fC_X3_moveTo N K1 (z + 7) (cI M' (z + 7) 2 + 1) M').bind fun o42 => tb (fT_X3_readBase N (z + 7) K1 o42) fun o47 => kc o47.1 o47.2.1 o47.2.2) = kc (nI v) K1 (mv z (mv z M' (a + 1)) (a + 2)) ∧ ((fM_takeUnit N 1 (pF S' 7 (nI (a + 1)))).bind fun o163 => kr o163.1 o163.2) = kr (nI v) (pF S' 7 (nI (a + 1)))) ∨
    FT z b K0 M S ((fC_X3_moveTo N K1 (z + 7) (cI M' (z + 7) 2 + 1) M').bind fun o42 => tb (fT_X3_readBase N (z + 7) K1 o42) fun o47 => kc o47.1 o47.2.1 o47.2.2) ((fM_takeUnit N 1 (pF S' 7 (nI (a + 1)))).bind fun o163 => kr o163.1 o163.2) := by
  have hz := HS.hz e
  have hnu := e.2.2.2.1.1
  have ht := e.2.2.2.1.2
  have b2 : bn < 2 := by have := e.1.2; omega
  have hm := HS.mv e h (j := a + 1) (by omega)
  obtain ⟨⟨p, n0⟩, ⟨c, hf⟩, ⟨o, u⟩, q1, q2⟩ := id h
  obtain ⟨⟨p1, n1⟩, ⟨c1, hf1⟩, ⟨o1, u1⟩, -, -⟩ := id hm
  have k7 : kd K1 (z + 7) = 4 := p.1.k 7 4 0 rfl
  have k1 : kd K1 (z + 1) = 7 := p.1.k 1 7 0 rfl
  rw [p.2.2.2.2.2.1, nI_1, mv_ok p.1 p.2.1 N (by omega), bs]
  have kn1 : cI (mv z M' (a + 1)) (z + 7) 3 = cI (mv z M' (a + 1)) (z + 3) (a + 1) := p1.2.2.2.2.2.2.1
  generalize hM1 : mv z M' (a + 1) = M1 at *
  generalize hS1 : pF S' 7 (nI (a + 1)) = S1 at *
  have fin : ∀ (f : Nat) (x : Int32), FLT f → ∀ (o : Option Ms), o = kr x (pF S1 8 (nI f)) → ∀ c : Option (α ⊕ (Ka × Cm)), c = some (.inr (K1, wI M1 (z + 7) 5 (nI f))) → FT z b K0 M S c o := fun f x hff o ho c hc => by
    obtain ⟨S8, s1, s2, s3⟩ := hkr x (pF S1 8 (nI f)) f ⟨hff, rfl⟩
    exact HS.ft e hm hff hc (ho.trans s1) s2 ((AgO.pF o8 _).tr s3)
  rcases k_name p1 N (by omega) with ⟨g1, g2, g3, g4⟩ | ⟨g1, g2⟩
  · have kn2 : cI M1 (z + 7) 3 = 2 := kn1.trans g1
    have hl1 : a + 1 < t := p1.lt (by rw [g1]; decide)
    obtain ⟨-, -, n3, n4, -, -, -, -, -, n10, -⟩ := id n1
    obtain ⟨a4, x4, fu⟩ := fu_ok n1 N (by omega) (mL S1 6 (a + 1))
    have r70' : cR M1 (z + 7) 0 = some (z + 1) := p1.1.r 7 0 1 (by decide)
    have cb : fT_X3_readBase N (z + 7) K1 M1 = ((fC_X8_rankOf N K1 (mL S1 6 (a + 1)) a4 (nI nu) M1).bind fun o38 => if 0 ≤ o38.1 then ((bT_X3_readBase_51 N) (z + 7) o38.1 K1 o38.2) else (tb (fT_X3_refuse N (z + 7) 2 K1 o38.2) fun o48 => (bT_X3_readBase_51 N) (z + 7) o38.1 o48.1 o48.2)) := by
      unfold fT_X3_readBase bT_X3_readBase_13
      rw [gd_k k7, if_pos kn2, gd_k k7, nn_s r70', gd_k k1, p1.2.2.2.2.2.1, va_ok p1 N (by omega), bs]
      dsimp only
      rw [nn_s n3, gd_k n4, nn_s n3, gd_k n4, nn_s x4, g3, n10]
    rw [cb]
    rcases fu with ⟨r, r1, r2, r3⟩ | ⟨r2, r3⟩
    · obtain ⟨tw, t1, t2, t3, t4, t5⟩ := e.2.2.2.2.2 r r1
      have ne20 : mA S1 20 (24 * bn + r) = mA S 20 (24 * bn + r) := hf1.2.1 20 _ (fun q => by rcases q with ⟨-, q⟩ | ⟨q, -⟩ <;> omega)
      have tU := tU_in (x := 1) p1 N n1 r1 g2 r3
      rw [ne20] at tU
      have e5 := e.2.2.2.2.1
      have tc : cR M1 sm 5 = some (sm + 6) := by rw [(c1.2.2.2 sm (by omega)).2]; exact e5.1
      have tr : cR M1 (sm + 6) r = some tw := by rw [(c1.2.2.2 _ (by omega)).2]; exact t1
      have tv : cI M1 tw 0 = mA S 20 (24 * bn + r) := by rw [c1.1 tw (by omega) (by omega)]; exact t4
      have c51 : bT_X3_readBase_51 N (z + 7) (nI r) K1 M1 = (if mA S 20 (24 * bn + r) = 0 then (tb (fT_X3_refuse N (z + 7) 6 K1 M1) fun o69 => (bT_X3_readBase_72 N) (z + 7) (nI r) o69.1 o69.2) else ((bT_X3_readBase_72 N) (z + 7) (nI r) K1 M1)) := by
        unfold bT_X3_readBase_51
        rw [gd_k k7, nn_s n3, gd_k n4, nn_s tc, gd_k e5.2.1, ck_n (show r < le K1 (sm + 6) by omega) (by omega), nI_clamp (show r < 2 ^ 31 by omega), nn_s tr, gd_k t2, tv]
      rw [r2, bs]
      dsimp only
      rw [if_pos (nI_pos' (by omega)), c51, tU]
      rcases t5 with z20 | z20
      · right
        obtain ⟨f, f1, f2, f3, f4⟩ := d_wrg (w := 6) p1 (by omega) (by omega) N
        have f2' : fT_X3_refuse N (z + 7) 6 K1 M1 = some (.inr (K1, wI M1 (z + 7) 5 (nI f))) := f2
        have f3' : fM_wrong N 6 S1 = some (pF S1 8 (nI f)) := f3
        rw [if_pos z20, f2', tb_r, tb_r, if_neg (by rw [z20]; decide), f3', bs, bs]
        exact fin f (nI r) f1 _ rfl _ rfl
      · left
        refine ⟨r, r1, by omega, z20, ?_, ?_⟩
        · rw [if_neg (by rw [z20]; decide)]
          unfold bT_X3_readBase_72
          rw [gd_k k7, p1.2.2.2.2.2.1, nI_1, mv_ok p1.1 p1.2.1 N (by omega), bs, tb_l]
        · rw [if_pos z20, bs]
    · right
      obtain ⟨f, f1, f2, f3, f4⟩ := d_wrg (w := 2) p1 (by omega) (by omega) N
      have f2' : fT_X3_refuse N (z + 7) 2 K1 M1 = some (.inr (K1, wI M1 (z + 7) 5 (nI f))) := f2
      have f3' : fM_wrong N 2 S1 = some (pF S1 8 (nI f)) := f3
      rw [r2, bs]
      dsimp only
      rw [if_neg (by decide), f2', tb_r, tb_r, tU_un p1 N g2 r3 f3', bs]
      exact fin f (-1) f1 _ rfl _ rfl
  · right
    obtain ⟨f, f1, f2, f3, f4⟩ := d_wrg (w := 1) p1 (by omega) (by omega) N
    have f2' : fT_X3_refuse N (z + 7) 1 K1 M1 = some (.inr (K1, wI M1 (z + 7) 5 (nI f))) := f2
    have f3' : fM_wrong N 1 S1 = some (pF S1 8 (nI f)) := f3
    have cb : fT_X3_readBase N (z + 7) K1 M1 = some (.inr (K1, wI M1 (z + 7) 5 (nI f))) := by
      unfold fT_X3_readBase
      rw [gd_k k7, if_neg (fun w => g1 (kn1.symm.trans w)), f2', tb_r]
    rw [cb, tb_r, tU_no p1 N g2 f3' f1, bs]
    exact fin f (-1) f1 _ rfl _ rfl
/-- cells more -/
theorem PT.ke (h : PT z K M S size t a) (hK : KE K K1) (hz : z + 174 ≤ kz K) (hM : ∀ q, q < kz K → cI M' q = cI M q ∧ cL M' q = cL M q ∧ cR M' q = cR M q) : PT z K1 M' S size t a := by
  obtain ⟨h1, h2, h3, h4, h5, h6, h7, h8⟩ := h
  have ag : AgA z K M M' := ⟨fun q h1 _ => ⟨(hM q h1).1, (hM q h1).2.1⟩, fun q s h1 _ => by rw [(hM q h1).2.2]⟩
  refine ⟨h1.old hK ag hz, ?_, h3, h4, h5, by rw [(hM (z + 7) (by omega)).1]; exact h6, by rw [(hM (z + 7) (by omega)).1, (hM (z + 3) (by omega)).1]; exact h7, h8⟩
  unfold TKS TK1 at h2 ⊢
  rw [(hM (z + 1) (by omega)).1, (hM (z + 3) (by omega)).1, (hM (z + 4) (by omega)).1, (hM (z + 5) (by omega)).2.1]
  exact h2
theorem NRow.ke {sl row base n q : Nat} (h : NRow K M S sm sl row base n) (hq : cR M sm sl = some q) (hR : cR M' sm sl = cR M sm sl) (hC : cL M' q = cL M q) (h1 : kd K1 q = kd K q) (h2 : le K1 q = le K q) : NRow K1 M' S sm sl row base n := by
  obtain ⟨q', w1, w2, w3, w4, w5, w6⟩ := h
  have eq : q' = q := by rw [hq] at w1; cases w1; rfl
  subst eq
  exact ⟨q', by rw [hR]; exact w1, by rw [h1]; exact w2, by rw [h2]; exact w3, by rw [h2]; exact w4, fun d hd => by rw [hC]; exact w5 d hd, w6⟩
theorem NN.ke (h : NN z K M S bn sm nd nu nm) (hK : KE K K1) (hs : z + 174 ≤ sm ∧ sm + 11 ≤ kz K) (hr : cR M sm 0 = some (sm + 1) ∧ cR M sm 4 = some (sm + 5) ∧ cR M sm 7 = some (sm + 8)) (hM : ∀ q, q < kz K → cI M' q = cI M q ∧ cL M' q = cL M q ∧ cR M' q = cR M q) : NN z K1 M' S bn sm nd nu nm := by
  obtain ⟨n1, n2, n3, n4, n5, n6, n7, n8, n9, n10, n11, n12, n13, n14, n15, n16⟩ := h
  have es := hM sm (by omega)
  exact ⟨n1, n2, by rw [(hM (z + 7) (by omega)).2.2]; exact n3, by rw [(hK.2 sm (by omega)).1]; exact n4, n5, n6, n7, by rw [es.1]; exact n8, n9, by rw [es.1]; exact n10, n11, by rw [es.1]; exact n12, n13, n14.ke hr.1 (by rw [es.2.2]) (hM _ (by omega)).2.1 (hK.2 _ (by omega)).1 (hK.2 _ (by omega)).2, n15.ke hr.2.1 (by rw [es.2.2]) (hM _ (by omega)).2.1 (hK.2 _ (by omega)).1 (hK.2 _ (by omega)).2, n16.ke hr.2.2 (by rw [es.2.2]) (hM _ (by omega)).2.1 (hK.2 _ (by omega)).1 (hK.2 _ (by omega)).2⟩
/-- the reference's stores behind a unit's name -/
def uS (S : Ms) (i : Nat) : Ms := pA (pA (pA (pA (pA (pA S 22 i (-1)) 23 i 0) 25 i 0) 30 i 0) 31 i 0) 33 i (-1)
/-- behind the name -/
theorem hs_0 (e : HE z b bn sm t nu (kz K) K0 (uK K) M S) (p : PT z K Mb S1 size t a1) (n : NN z K Mb S1 bn sm nd nu nm) (hz : z + 174 ≤ kz K) (hr : cR M sm 0 = some (sm + 1) ∧ cR M sm 4 = some (sm + 5) ∧ cR M sm 7 = some (sm + 8)) (hI : ∀ q, q ≠ z + 7 → cI Mb q = cI M q) (h7 : ∀ s, s ≠ 2 → s ≠ 3 → s ≠ 4 → cI Mb (z + 7) s = cI M (z + 7) s) (h4 : cI Mb (z + 7) 4 = nI nu) (hL : cL Mb = cL M) (hR : cR Mb = cR M)
    (h1 : x1 = 0 ∨ x1 = 1) (h2 : x2 = 0 ∨ x2 = 1) (hF : HFr (24 * bn + nu) S S1) (h20 : mA S1 20 (24 * bn + nu) = x1) (h21 : mA S1 21 (24 * bn + nu) = x2) (hN : 30 < N) :
    (∃ x, a1 < t ∧ (∀ r, r < 25 → x ≠ kwT r) ∧ (∀ k, k < nd → mL S 14 (24 * bn + k) ≠ x) ∧ (∀ k, k < nu → mL S 19 (24 * bn + k) ≠ x) ∧ (∀ k, k < nm → mL S 36 (20 * bn + k) ≠ x) ∧ fT_X3_takeNewName N (z + 7) (uK K) (uM Mb (kz K) x1 x2) = some (.inl (x, uK K, mv z (uM Mb (kz K) x1 x2) (a1 + 1))) ∧ fM_newName N S1 = some (x, pF S1 7 (nI (a1 + 1))) ∧
      HS z bn sm size t nd nu nm (kz K) (uK K) M S (mv z (uM Mb (kz K) x1 x2) (a1 + 1)) (uS (pF S1 7 (nI (a1 + 1))) (24 * bn + nu)) (a1 + 1) x1 x2 (-1) []) ∨
    (∃ f, FLT f ∧ fT_X3_takeNewName N (z + 7) (uK K) (uM Mb (kz K) x1 x2) = some (.inr (uK K, wI (uM Mb (kz K) x1 x2) (z + 7) 5 (nI f))) ∧ fM_newName N S1 = some (mL S1 6 a1, pF (pF S1 8 (nI f)) 7 (nI (a1 + 1))) ∧ AgA z K0 M (wI (uM Mb (kz K) x1 x2) (z + 7) 5 (nI f))) := by
  have hh := HS.hz e
  have lo : ∀ q, q < kz K → cI (uM Mb (kz K) x1 x2) q = cI Mb q ∧ cL (uM Mb (kz K) x1 x2) q = cL Mb q ∧ cR (uM Mb (kz K) x1 x2) q = cR Mb q := fun q hq => uM_lo hq
  have p' : PT z (uK K) (uM Mb (kz K) x1 x2) S1 size t a1 := p.ke (uK_ke K) hz lo
  have n' : NN z (uK K) (uM Mb (kz K) x1 x2) S1 bn sm nd nu nm := n.ke (uK_ke K) ⟨hh.1, hh.2.1⟩ (by rw [hR]; exact hr) lo
  have hc : HC z (kz K) nu M (uM Mb (kz K) x1 x2) := ⟨fun q q1 q2 => (lo q q2).1.trans (hI q q1), fun s s2 s3 s4 => by rw [(lo (z + 7) (by omega)).1]; exact h7 s s2 s3 s4, by rw [(lo (z + 7) (by omega)).1]; exact h4, fun q hq => ⟨by rw [(lo q hq).2.1, hL], by rw [(lo q hq).2.2, hR]⟩⟩
  have lS : mL S1 = mL S := hF.2.2
  rcases l_new p' n' N hN with ⟨x, y1, y2, y3, y4, y5, y6, y7, y8⟩ | ⟨f, y1, y2, y3⟩
  · left
    rw [lS] at y4 y5 y6
    refine ⟨x, y2, y3, y4, y5, y6, y7, y8, ⟨?_, ?_⟩, ⟨hc.mv _, ?_⟩, ⟨?_, ?_⟩, by decide, fun r hr => absurd hr (by simp)⟩
    · unfold uS
      exact ((((((p'.mv (j := a1 + 1) (by omega)).sA (by decide) (by decide) _ _).sA (by decide) (by decide) _ _).sA (by decide) (by decide) _ _).sA (by decide) (by decide) _ _).sA (by decide) (by decide) _ _).sA (by decide) (by decide) _ _
    · unfold uS
      exact ((((((n'.mv (by omega) (a1 + 1) (nI (a1 + 1))).pA (by decide) (by decide) (by decide)).pA (by decide) (by decide) (by decide)).pA (by decide) (by decide) (by decide)).pA (by decide) (by decide) (by decide)).pA (by decide) (by decide) (by decide)).pA (by decide) (by decide) (by decide)
    · unfold uS
      exact ((((((hF.p7 _).pA (Or.inl ⟨Or.inl ⟨by decide, by decide⟩, rfl⟩)).pA (Or.inl ⟨Or.inl ⟨by decide, by decide⟩, rfl⟩)).pA (Or.inl ⟨Or.inr (Or.inl rfl), rfl⟩)).pA (Or.inl ⟨Or.inr (Or.inr (Or.inl rfl)), rfl⟩)).pA (Or.inl ⟨Or.inr (Or.inr (Or.inr (Or.inl rfl))), rfl⟩)).pA (Or.inl ⟨Or.inr (Or.inr (Or.inr (Or.inr rfl))), rfl⟩)
    · obtain ⟨i0, i1, i6, i7, i8, i9, i13⟩ := uM_I (M := Mb) (tu := kz K) (x1 := x1) (x2 := x2)
      obtain ⟨j1, j2⟩ := uM_row (M := Mb) (tu := kz K) (x1 := x1) (x2 := x2)
      have mvI : cI (mv z (uM Mb (kz K) x1 x2) (a1 + 1)) (kz K) = cI (uM Mb (kz K) x1 x2) (kz K) := mv_I _ (by omega)
      refine ⟨(uK_kd K).1, fun sl kind len hm => ⟨?_, (uK_kd K).2 sl kind len hm⟩, by rw [mvI]; exact i0, by rw [mvI]; exact i1, by rw [mvI]; exact i6, by rw [mvI]; exact i7, by rw [mvI]; exact i8, by rw [mvI]; exact i9, by rw [mvI]; exact i13, fun j hj => absurd hj (Nat.not_lt_zero _), fun s => by rw [mv_I _ (by omega)]; exact j2 s⟩
      refine j1 sl ?_
      simp only [List.mem_cons, List.not_mem_nil, or_false, Prod.mk.injEq] at hm
      omega
    · unfold uS UH
      simp only [mA_A]
      refine ⟨?_, ?_, ?_⟩
      · simp
        exact h20
      · simp
        exact h21
      · simp
        rfl
  · right
    refine ⟨f, y1, y2, y3, (hc.aga hh.2.2).tr ⟨fun q _ hq => ⟨cI_wI_ne _ _ _ hq, rfl⟩, fun _ _ _ _ => rfl⟩⟩
end UNAME
