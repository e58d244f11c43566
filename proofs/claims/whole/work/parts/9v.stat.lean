/-! a static -/
/-- the rows of an item -/
def TBL (i ni : Nat) (x2 : Int32) (x : Int64) (w : Int32) (S S' : Ms) : Prop :=
  mF S' = mF S ∧ (∀ k, ¬ (25 ≤ k ∧ k ≤ 31) → mA S' k = mA S k) ∧ mA S' 26 = mA S 26 ∧ (∀ q, mA S' 25 q = if q = i then mA S 25 i + 1 else mA S 25 q) ∧ (∀ q, mA S' 30 q = if q = i then mA S 30 i + x2 else mA S 30 q) ∧ (∀ q, mA S' 31 q = if q = i then mA S 31 i + (1 - x2) else mA S 31 q) ∧ (∀ q, mL S' 26 q = if q = 8 * i + ni then x else mL S 26 q) ∧ (∀ k, k ≠ 26 → mL S' k = mL S k) ∧ (∀ q, mA S' 27 q = if q = 8 * i + ni then x2 else mA S 27 q) ∧ (∀ q, mA S' 28 q = if q = 8 * i + ni then w else mA S 28 q) ∧ ∀ q, mA S' 29 q = if q = 8 * i + ni then (if x2 = 0 then mA S 31 i else mA S 30 i) else mA S 29 q
theorem TBL.uq {i ni : Nat} {x2 : Int32} {x : Int64} {w : Int32} {S S1 S2 : Ms} (h : TBL i ni x2 x w S S1) (h' : TBL i ni x2 x w S S2) : S1 = S2 := by
  obtain ⟨a1, a2, a3, a4, a5, a6, a7, a8, a9, a10, a11⟩ := h
  obtain ⟨b1, b2, b3, b4, b5, b6, b7, b8, b9, b10, b11⟩ := h'
  have eA : mA S1 = mA S2 := by
    funext k
    by_cases y : 25 ≤ k ∧ k ≤ 31
    · rcases (show k = 25 ∨ k = 26 ∨ k = 27 ∨ k = 28 ∨ k = 29 ∨ k = 30 ∨ k = 31 by omega) with y | y | y | y | y | y | y
      · subst y; funext q; rw [a4, b4]
      · subst y; rw [a3, b3]
      · subst y; funext q; rw [a9, b9]
      · subst y; funext q; rw [a10, b10]
      · subst y; funext q; rw [a11, b11]
      · subst y; funext q; rw [a5, b5]
      · subst y; funext q; rw [a6, b6]
    · rw [a2 k y, b2 k y]
  have eL : mL S1 = mL S2 := by
    funext k
    by_cases y : k = 26
    · subst y; funext q; rw [a7, b7]
    · rw [a8 k y, b8 k y]
  exact Prod.ext (a1.trans b1.symm) (Prod.ext eA eL)
theorem emS_A (S : Ms) (i r : Nat) (x1 x2 x3 : Int32) (k q : Nat) : mA (emS S i r x1 x2 x3) k q = if k = 41 ∧ q = i then x3 else if k = 40 ∧ q = i then x2 else if k = 39 ∧ q = i then x1 else mA S k q := by
  unfold emS
  rw [mA_F, mA_A, mA_A, mA_A]
theorem TBL.em {i ni c r : Nat} {x1 y x3 x2 : Int32} {x : Int64} {w : Int32} {S S1 : Ms} (h : TBL i ni x2 x w S S1) : TBL i ni x2 x w (emS S c r x1 y x3) (emS S1 c r x1 y x3) := by
  obtain ⟨a1, a2, a3, a4, a5, a6, a7, a8, a9, a10, a11⟩ := h
  have o : ∀ {S : Ms} {k : Nat}, k < 38 → mA (emS S c r x1 y x3) k = mA S k := fun hk => emS_o (by omega)
  refine ⟨?_, fun k hk => ?_, ?_, ?_, ?_, ?_, a7, a8, ?_, ?_, ?_⟩
  · funext k
    show mF (pF _ 38 _) k = mF (pF _ 38 _) k
    rw [mF_F, mF_F]
    by_cases q : k = 38
    · rw [if_pos q, if_pos q]
    · rw [if_neg q, if_neg q]; exact congrFun a1 k
  · funext q
    rw [emS_A, emS_A, a2 k hk]
  · rw [o (by decide), o (by decide)]; exact a3
  · rw [o (by decide), o (by decide)]; exact a4
  · rw [o (by decide), o (by decide)]; exact a5
  · rw [o (by decide), o (by decide)]; exact a6
  · rw [o (by decide), o (by decide)]; exact a9
  · rw [o (by decide), o (by decide)]; exact a10
  · rw [o (by decide), o (by decide), o (by decide), o (by decide)]; exact a11
def stC (M : Cm) (tu ni ns : Nat) (x : Int64) : Cm := wI (wI (wI (wI (wL M (tu + 2) ni x) (tu + 3) ni (nI ns)) (tu + 4) ni 1) tu 8 (nI (ni + 1))) tu 9 (nI (ns + 1))
section STAT
variable {N z b bn sm size t nd nu nm iu u tu : Nat} {ex : Nat → Nat → Prop} {K0 K : Ka} {M M' M'' : Cm} {S S' S'' : Ms} {mk mk' : List Mk} {j : Jt} {rc cc a v rv dp n f : Nat}
theorem ast_ok {ni ns : Nat} (hA : UA K M S bn sm u tu) (h8 : cI M tu 8 = nI ni) (h9 : cI M tu 9 = nI ns) (hn : ni < 8) (N : Nat) (x : Int64) : fC_X7_addStatic N K tu x M = some (nI ns, stC M tu ni ns x) := by
  have r3 := hA.2.2.2.1 3 23 8 (by decide)
  have r4 := hA.2.2.2.1 4 22 8 (by decide)
  have r5 := hA.2.2.2.1 5 24 8 (by decide)
  have e3 : tu + 3 - 1 = tu + 2 := by omega
  have e4 : tu + 4 - 1 = tu + 3 := by omega
  have e5 : tu + 5 - 1 = tu + 4 := by omega
  rw [e3] at r3
  rw [e4] at r4
  rw [e5] at r5
  have cl : (nI ni).toNatClampNeg = ni := nI_clamp (by omega)
  have r4' : cR (wL M (tu + 2) ni x) tu 4 = some (tu + 3) := r4.1
  have i8 : cI (wL M (tu + 2) ni x) tu 8 = nI ni := h8
  have r5' : cR (wI (wL M (tu + 2) ni x) (tu + 3) ni (nI ns)) tu 5 = some (tu + 4) := r5.1
  have i8' : cI (wI (wL M (tu + 2) ni x) (tu + 3) ni (nI ns)) tu 8 = nI ni := by rw [cI_wI_ne _ _ _ (by omega)]; exact h8
  have i8'' : cI (wI (wI (wL M (tu + 2) ni x) (tu + 3) ni (nI ns)) (tu + 4) ni 1) tu 8 = nI ni := by rw [cI_wI_ne _ _ _ (by omega)]; exact i8'
  have i9'' : cI (wI (wI (wI (wL M (tu + 2) ni x) (tu + 3) ni (nI ns)) (tu + 4) ni 1) tu 8 (nI (ni + 1))) tu 9 = nI ns := by
    rw [cI_w, if_neg (by omega), cI_wI_ne _ _ _ (by omega), cI_wI_ne _ _ _ (by omega)]; exact h9
  unfold fC_X7_addStatic bC_X7_addStatic_64 stC
  rw [gd_k hA.2.2.1, h8, h9, if_neg (show ¬ (8 : Int32) ≤ nI ni from nI_ge (b := 8) hn (by decide)), nn_s r3.1, gd_k r3.2.1, r3.2.2, ck_n hn (by decide), cl, nn_s r4', gd_k r4.2.1, r4.2.2, i8, ck_n hn (by decide), cl, nn_s r5', gd_k r5.2.1, r5.2.2, i8', ck_n hn (by decide), cl, show vp_nar .boolean (1 : Int32) = 1 from rfl, i8'', nI_1, i9'', nI_1]
/-- behind the expression -/
theorem stat_tail {r ni ns : Nat} {x : Int64} (hP : PS z b bn sm size t nd nu nm (u + 1) ex K0 K M S mk (1, [], r) rc cc a (v + 1) 0 0) (hr : r ≤ 74) (hu : u < nu) (ht : cR M (sm + 6) u = some tu) (h8 : cI M tu 8 = nI ni) (h9 : cI M tu 9 = nI ns) (hns : ns ≤ 8) (hn : ni < 8) (h25 : mA S 25 (24 * bn + u) = nI ni) (hkw : ∀ r, r < 25 → x ≠ kwT r) (hx : ∀ s, s < ni → mL S 26 (8 * (24 * bn + u) + s) ≠ x) (hN : 4010 < N) :
    IO z b bn sm size t nd nu nm (u + 1) tu ex K0 K M S mk a (v + 1) (bT_X3_readStatic_36 N (z + 7) tu x K M) ((fM_emit N 5 (mF S 49) (mA S 25 (24 * bn + u)) S).bind fun o240 => bM_item_244 N (nI (24 * bn + u)) 0 x (nI (8 * (24 * bn + u) + ni)) 0 o240.2) := by
  have ht4 := hP.t4
  have hroom := hP.room
  have hz := hP.hz
  have n24 : nu ≤ 24 := hP.2.1.1.2.2.2.2.2.1
  have b2 : bn < 2 := by have := hP.1.2.1; omega
  obtain ⟨p1, p2, fl, p3⟩ := id hP.2.1.2.2.1
  obtain ⟨⟨tu', hA, hB, -⟩, -⟩ := p3 u hu
  have et : tu' = tu := by have := hA.1; rw [ht] at this; cases this; rfl
  subst et
  have htu := hA.2.1
  have tn : tu' ≠ z + 7 := by omega
  have e49 : mF S 49 = nI u := by rw [hP.2.1.2.2.2.2.1]; exact sub1 u (by omega)
  have e4 : cI M (z + 7) 4 = nI u := by rw [hP.2.1.2.2.2.2.2.1]; exact sub1 u (by omega)
  rw [e49, h25, hP.wS N, bs]
  dsimp only
  have c36 : bT_X3_readStatic_36 N (z + 7) tu' x K M = tb (fT_X3_take N (z + 7) 59 K M) fun o39 => (bT_X3_readStatic_42 N) (z + 7) tu' x o39.1 o39.2 := by
    unfold bT_X3_readStatic_36
    rw [gd_k hP.k7]
  rw [c36]
  unfold bM_item_244
  rcases l_sign (hP.2.2.1.eS (10000 * bn + rc) rc 5 (nI u) (nI ni)) N (c := 59) (by decide) (by decide) with ⟨-, g1, g2, g3⟩ | ⟨f, f1, f2, f3⟩
  · have g2' : fT_X3_take N (z + 7) 59 K M = some (.inl (K, mv z M (a + 1))) := g2
    have g3' : fM_takeSign N 59 (emS S (10000 * bn + rc) rc 5 (nI u) (nI ni)) = some (pF (emS S (10000 * bn + rc) rc 5 (nI u) (nI ni)) 7 (nI (a + 1))) := g3
    rw [g2', tb_l, g3', bs, ← emS_p7]
    dsimp only
    have h2 := (hP.tk (a' := a + 1) (by omega) (by omega)).less (v' := v + 1 + 1) (by omega)
    have hA2 : UA K (mv z M (a + 1)) S bn sm u tu' := by
      unfold UA at hA ⊢
      rw [mv_I _ tn, mv_I _ (show tu' + 1 ≠ z + 7 by omega)]
      exact hA
    have i8 : cI (mv z M (a + 1)) tu' 8 = nI ni := by rw [mv_I _ tn]; exact h8
    have i9 : cI (mv z M (a + 1)) tu' 9 = nI ns := by rw [mv_I _ tn]; exact h9
    have e4' : cI (mv z M (a + 1)) (z + 7) 4 = nI u := by rw [h2.2.1.2.2.2.2.2.1]; exact sub1 u (by omega)
    unfold bT_X3_readStatic_42 bT_X3_readStatic_56
    rw [gd_k hP.k7, gd_k hA.2.2.1, ast_ok hA2 i8 i9 hn N x, bs, e4']
    dsimp only
    obtain ⟨S3, s1, tb3⟩ := i244 (S := pF S 7 (nI (a + 1))) N (i := 24 * bn + u) (ni := ni) (by omega) hn (x2 := 0) (Or.inl rfl) x 0 h2.f0
    obtain ⟨S4, s4, tb4⟩ := i244 (S := emS (pF S 7 (nI (a + 1))) (10000 * bn + rc) rc 5 (nI u) (nI ni)) N (i := 24 * bn + u) (ni := ni) (by omega) hn (x2 := 0) (Or.inl rfl) x 0 (by rw [emS_f (by decide)]; exact h2.f0)
    have e34 : S4 = emS S3 (10000 * bn + rc) rc 5 (nI u) (nI ni) := TBL.uq (show TBL _ _ _ _ _ _ _ from tb4) (TBL.em (show TBL _ _ _ _ _ _ _ from tb3))
    rw [s4, e34]
    obtain ⟨s2, s3, s4, s5, s6, s7, s8, s9, s10, s11, s12⟩ := tb3
    have m2 : ∀ s, cL (stC (mv z M (a + 1)) tu' ni ns x) (tu' + 2) s = if s = ni then x else cL M (tu' + 2) s := fun s => by
      unfold stC
      rw [cL_I, cL_I, cL_I, cL_I, cL_w]
      by_cases y : s = ni
      · rw [if_pos ⟨rfl, y⟩, if_pos y]
      · rw [if_neg (fun y' => y y'.2), if_neg y]; rfl
    have m3 : ∀ s, cI (stC (mv z M (a + 1)) tu' ni ns x) (tu' + 3) s = if s = ni then nI ns else cI M (tu' + 3) s := fun s => by
      unfold stC
      rw [cI_wI_ne _ _ _ (by omega), cI_wI_ne _ _ _ (by omega), cI_wI_ne _ _ _ (by omega), cI_w]
      by_cases y : s = ni
      · rw [if_pos ⟨rfl, y⟩, if_pos y]
      · rw [if_neg (fun y' => y y'.2), if_neg y]; exact congrFun (mv_I (a + 1) (by omega)) s
    have m4 : ∀ s, cI (stC (mv z M (a + 1)) tu' ni ns x) (tu' + 4) s = if s = ni then 1 else cI M (tu' + 4) s := fun s => by
      unfold stC
      rw [cI_wI_ne _ _ _ (by omega), cI_wI_ne _ _ _ (by omega), cI_w]
      by_cases y : s = ni
      · rw [if_pos ⟨rfl, y⟩, if_pos y]
      · rw [if_neg (fun y' => y y'.2), if_neg y, cI_wI_ne _ _ _ (by omega)]; exact congrFun (mv_I (a + 1) (by omega)) s
    have mo : ∀ y, y ≠ tu' → y ≠ tu' + 3 → y ≠ tu' + 4 → cI (stC (mv z M (a + 1)) tu' ni ns x) y = cI (mv z M (a + 1)) y := fun y h1 h2 h3 => by
      unfold stC
      rw [cI_wI_ne _ _ _ h1, cI_wI_ne _ _ _ h1, cI_wI_ne _ _ _ h3, cI_wI_ne _ _ _ h2]; rfl
    have mt : ∀ s, cI (stC (mv z M (a + 1)) tu' ni ns x) tu' s = if s = 9 then nI (ns + 1) else if s = 8 then nI (ni + 1) else cI M tu' s := fun s => by
      unfold stC
      rw [cI_w, cI_w, cI_wI_ne _ _ _ (by omega), cI_wI_ne _ _ _ (by omega)]
      by_cases y : s = 9
      · rw [if_pos ⟨rfl, y⟩, if_pos y]
      · rw [if_neg (fun y' => y y'.2), if_neg y]
        by_cases y : s = 8
        · rw [if_pos ⟨rfl, y⟩, if_pos y]
        · rw [if_neg (fun y' => y y'.2), if_neg y]; exact congrFun (mv_I (a + 1) tn) s
    have ml : ∀ y, y ≠ tu' + 2 → cL (stC (mv z M (a + 1)) tu' ni ns x) y = cL (mv z M (a + 1)) y := fun y hy => by
      unfold stC
      rw [cL_I, cL_I, cL_I, cL_I, cL_wL_ne _ _ _ hy]
    have e31 : mA S 31 (24 * bn + u) = nI ns := by
      obtain ⟨ni1, ns1, b1, b2, b3, b4, b5, b6, -⟩ := hB
      have : ns1 = ns := (nI_eq (by omega) (by omega)).mp (b5.symm.trans h9)
      rw [b6, this]
    have hB2 : UB (stC (mv z M (a + 1)) tu' ni ns x) S3 bn u tu' := by
      refine hB.stat h8 h9 hns hn hkw hx (by rw [mt, if_neg (by decide), if_pos rfl]) (by rw [mt, if_pos rfl]) m2 m3 m4 ?_ ?_ ?_ s8 s10 (fun i hi => by rw [s11, if_neg hi]; rfl) ?_
      · rw [s5, if_pos rfl, show mA (pF S 7 (nI (a + 1))) 25 (24 * bn + u) = nI ni from h25, nI_1]
      · rw [s6, if_pos rfl, Int32.add_zero]; rfl
      · rw [s7, if_pos rfl]; rfl
      · intro i
        rw [s12, if_pos (show (0 : Int32) = 0 from rfl), show mA (pF S 7 (nI (a + 1))) 31 (24 * bn + u) = nI ns from e31]; rfl
    have t25 : ∀ i, mA S3 25 i = if i = 24 * bn + u then nI (ni + 1) else mA (pF S 7 (nI (a + 1))) 25 i := by
      intro i
      rw [s5]
      by_cases y : i = 24 * bn + u
      · rw [if_pos y, if_pos y, show mA (pF S 7 (nI (a + 1))) 25 (24 * bn + u) = nI ni from h25, nI_1]
      · rw [if_neg y, if_neg y]
    have tB : ∀ k, k = 30 ∨ k = 31 → ∀ i, i ≠ 24 * bn + u → mA S3 k i = mA (pF S 7 (nI (a + 1))) k i := by
      intro k hk i hi
      rcases hk with y | y
      · subst y
        rw [s6, if_neg hi]
      · subst y
        rw [s7, if_neg hi]
    have tC : ∀ k, k = 27 ∨ k = 28 ∨ k = 29 → ∀ i, i ≠ 8 * (24 * bn + u) + ni → mA S3 k i = mA (pF S 7 (nI (a + 1))) k i := by
      intro k hk i hi
      rcases hk with y | y | y
      · subst y
        rw [s10, if_neg hi]
      · subst y
        rw [s11, if_neg hi]
      · subst y
        rw [s12, if_neg hi]
    obtain ⟨h3, fi3⟩ := h2.tab (u := u) (tu := tu') (ni := ni) (M' := stC (mv z M (a + 1)) tu' ni ns x) (S' := S3) hu ht (by omega) hn h25 mo (fun s h1 h2 => by rw [mt, if_neg h2, if_neg h1, mv_I _ tn]) ml rfl s2 s3 t25 tB tC s4 (fun i hi => by rw [s8, if_neg hi]) s9 hB2
    have sl : SLs S3 bn u ni 0 := by
      refine ⟨⟨ni + 1, by omega, by rw [t25, if_pos rfl], by omega⟩, ?_⟩
      unfold sl8
      rw [s10, if_pos rfl]
    obtain ⟨h4, f4⟩ := h3.em (x := (5, u, ni)) (ρ := 74) (by simp) (by simp) (by simp) (EMC.mk' hr ⟨fun w => absurd w (by simp), fun w => absurd w (by simp), fun _ => ⟨hu, sl⟩, fun w => absurd w (by simp), fun w => absurd w (by simp), fun w => absurd w (by simp), fun w => absurd w (by simp)⟩ (by decide) (by show pp 5 ≤ 1; decide) (by simp) (by simp) (by omega) ⟨by simp, Or.inl rfl⟩)
    have cwe : cw bn S3 (5, u, ni) = wd 5 (nI u) (nI ns) := by
      show wd 5 (nI u) (mA S3 29 (sl8 bn u ni)) = _
      unfold sl8
      rw [s12, if_pos rfl, if_pos rfl, show mA (pF S 7 (nI (a + 1))) 31 (24 * bn + u) = nI ns from e31]
    rw [cwe] at h4 f4
    rw [h3.wC N, ta_l]
    have hf1 : FI z b sm tu' K0 M (mv z M (a + 1)) S (pF S 7 (nI (a + 1))) := (FR.mv (a + 1) (nI (a + 1)) hz).fi tn (by omega)
    exact Or.inl ⟨_, _, rc + 1, cc + 1, a + 1, 75, rfl, rfl, by omega, by omega, (hf1.tr fi3).tr (f4.fi tn (by omega)), (h4.drop (by show (5 : Nat) < 28; decide)).less (by omega)⟩
  · right
    have f2' : fT_X3_take N (z + 7) 59 K M = some (.inr (K, wI M (z + 7) 5 (nI f))) := f2
    have f3' : fM_takeSign N 59 (emS S (10000 * bn + rc) rc 5 (nI u) (nI ni)) = some (pF (emS S (10000 * bn + rc) rc 5 (nI u) (nI ni)) 8 (nI f)) := f3
    have d := hP.dds f1
    have d2 : DDs b bn 9000 S f (pF (emS S (10000 * bn + rc) rc 5 (nI u) (nI ni)) 8 (nI f)) := ⟨⟨f1, rfl⟩, (FR.em (M := M) (S := S) (cc := cc) (rc := rc) hP.1 (by omega) 0 5 (nI u) (nI ni)).2.2.2.2.2.2.2.2.2.tr (AgO.pF o8 _), d.2.2.1, d.2.2.2.1, rc + 1, rfl, by omega, fun k k1 k2 => emS_o (S := S) (r := rc) (by omega)⟩
    rw [f2', tb_r, f3', bs, if_neg d2.1.n1]
    exact hP.fb f1 rfl rfl d2
theorem it_stat {r : Nat} (hP : PS z b bn sm size t nd nu nm (u + 1) ex K0 K M S mk (0, [], r) rc cc a (v + 1) 0 0) (hr : r ≤ 90) (hu : u < nu) (ht : cR M (sm + 6) u = some tu) (hk : cI M (z + 3) a = nI 141) (hN : 4010 < N) :
    IO z b bn sm size t nd nu nm (u + 1) tu ex K0 K M S mk a (v + 1) (fT_X3_readStatic N (z + 7) tu K M) (fM_item N (nI (24 * bn + u)) S) := by
  have ht4 := hP.t4
  have hroom := hP.room
  have hz := hP.hz
  have n24 : nu ≤ 24 := hP.2.1.1.2.2.2.2.2.1
  have b2 : bn < 2 := by have := hP.1.2.1; omega
  obtain ⟨p1, p2, fl, p3⟩ := id hP.2.1.2.2.1
  obtain ⟨⟨tu', hA, hB, -⟩, -⟩ := p3 u hu
  have et : tu' = tu := by have := hA.1; rw [ht] at this; cases this; rfl
  subst et
  have htu := hA.2.1
  have tn : tu' ≠ z + 7 := by omega
  have hl : a < t := hP.2.2.1.lt (by rw [hk]; decide)
  obtain ⟨h1, f1⟩ := hP.em (x := (1, 0, 0)) (ρ := 90) (by decide) (by decide) (by decide) (EMC.st hr (by decide) (by decide) ⟨by decide, Or.inl rfl⟩)
  have h1' : PS z b bn sm size t nd nu nm (u + 1) ex K0 K (emC M sm cc (wd 1 0 0)) (emS S (10000 * bn + rc) rc 1 0 0) mk (0, [], 0) (rc + 1) (cc + 1) a v 0 0 := h1.drop (by show (1 : Nat) < 28; decide)
  have f1' : FR z b sm K0 M (emC M sm cc (wd 1 0 0)) S (emS S (10000 * bn + rc) rc 1 0 0) := f1
  have ref : fM_item N (nI (24 * bn + u)) S = RIc N (nI (24 * bn + u)) 0 (pF (emS S (10000 * bn + rc) rc 1 0 0) 7 (nI (a + 1))) := by
    have w12 : fM_isWord N 12 S = some (0, S) := by
      rcases k_word hP.2.2.1 N (w := 12) (by decide) with y | y
      · exact absurd (hk.symm.trans y.1) (by decide)
      · exact y.2
    have w13 : fM_isWord N 13 S = some (1, S) := by
      rcases k_word hP.2.2.1 N (w := 13) (by decide) with y | y
      · exact y.2
      · exact absurd hk y.1
    unfold fM_item
    rw [w12, bs]
    dsimp only
    rw [if_pos rfl, w13, bs]
    dsimp only
    rw [if_neg (by decide)]
    unfold bM_item_25 bM_item_40 RIc
    rw [if_pos rfl, hP.wS N, bs]
    dsimp only
    rw [h1'.m7, nI_1]
  have cls : fT_X3_readStatic N (z + 7) tu' K M = (tb (fT_X3_takeNewItemName N (z + 7) tu' K (mv z (emC M sm cc (wd 1 0 0)) (a + 1))) fun o12 => gd (kd o12.2.1 (z + 7) == 4) (tb (fT_X3_take N (z + 7) 61 o12.2.1 o12.2.2) fun o19 => (bT_X3_readStatic_30 N) (z + 7) tu' o12.1 o19.1 o19.2)) := by
    unfold fT_X3_readStatic bT_X3_readStatic_17 bT_X3_readStatic_23
    have h2 := hP.tk (a' := a + 1) (by omega) (by omega)
    rw [gd_k hP.k7, hP.mvC N hl, bs, h2.wC N, ta_l, mv_emC hz]
    dsimp only
    rw [gd_k hP.k7]
  rw [ref, cls]
  have h2 := h1'.tk (a' := a + 1) (by omega) (by omega)
  have ht1 : cR (mv z (emC M sm cc (wd 1 0 0)) (a + 1)) (sm + 6) u = some tu' := ht
  refine FR.io (a := a + 1) ?_ (f1'.tr (FR.mv (a + 1) (nI (a + 1)) hz)) tn (by omega) (by omega)
  rcases ni_eq h2 hu ht1 hN 0 (fun x K M => bT_X3_readStatic_30 N (z + 7) tu' x K M) with ⟨ni, ns, x, q1, q2, q3, q4, q5, q6, q7, q8, q9, q10⟩ | q
  · rw [q9, q10, mv_mv, pF_pF]
    generalize emC M sm cc (wd 1 0 0) = M1 at *
    generalize emS S (10000 * bn + rc) rc 1 0 0 = S1 at *
    have h3 : PS z b bn sm size t nd nu nm (u + 1) ex K0 K (mv z M1 (a + 3)) (pF S1 7 (nI (a + 3))) mk (0, [], 0) (rc + 1) (cc + 1) (a + 3) (v + 1) 0 0 := (h1'.tk (a' := a + 3) (by omega) (by omega)).less (v' := v + 1) (by omega)
    have ck2 : ∀ {ρ : Type} (q : Option ρ), ck (nI (24 * bn + u)) 48 q = q := fun q => ck_n (by omega) (by decide)
    have e8 : (8 : Int32) * nI (24 * bn + u) + nI ni = nI (8 * (24 * bn + u) + ni) := by rw [show (8 : Int32) = nI 8 from rfl, nI_mul, nI_add]
    have f3 : FR z b sm K0 (mv z M1 (a + 1)) (mv z M1 (a + 3)) (pF S1 7 (nI (a + 1))) (pF S1 7 (nI (a + 3))) := by
      have := FR.mv (z := z) (b := b) (sm := sm) (K0 := K0) (M := mv z M1 (a + 1)) (S := pF S1 7 (nI (a + 1))) (a + 3) (nI (a + 3)) hz
      rw [mv_mv, pF_pF] at this
      exact this
    refine FR.io (a := a + 3) ?_ f3 tn (by omega) (by omega)
    have eC : bT_X3_readStatic_30 N (z + 7) tu' x K (mv z M1 (a + 1 + 2)) = tb (gB N 150 5 (z + 7) (nI 0) (nI 0) K (mv z M1 (a + 3))) fun o33 => (bT_X3_readStatic_36 N) (z + 7) tu' x o33.1 o33.2 := by
      unfold bT_X3_readStatic_30
      rw [gd_k hP.k7]
      rfl
    have eR : RIe N (nI (24 * bn + u)) 0 x (pF S1 7 (nI (a + 1 + 2))) = ((gP N 120 (5 + 0) (pF S1 7 (nI (a + 3)))).bind fun o225 => ((fM_emit N 5 (mF o225 49) (mA o225 25 (24 * bn + u)) o225).bind fun o240 => bM_item_244 N (nI (24 * bn + u)) 0 x (nI (8 * (24 * bn + u) + ni)) 0 o240.2)) := by
      unfold RIe
      rw [ck2, if_pos rfl, nI_clamp (show 24 * bn + u < 2 ^ 31 by omega), show mA (pF S1 7 (nI (a + 1 + 2))) 25 (24 * bn + u) = nI ni from q5, e8]
      simp only [ck2]
      rfl
    rw [eC, eR]
    have i8 : cI (mv z M1 (a + 3)) tu' 8 = nI ni := by
      rw [mv_I _ tn] at q1 ⊢
      exact q1
    have i9 : cI (mv z M1 (a + 3)) tu' 9 = nI ns := by
      rw [mv_I _ tn] at q2 ⊢
      exact q2
    have hE := (ex_ok (N := N) (z := z) (b := b) (bn := bn) (sm := sm) (size := size) (t := t) (nd := nd) (nu := nu) (nm := nm) (iu := u + 1) (ex := ex) (K0 := K0) (K := K) hN 10 0 rfl 150 120 (by decide) (by decide) (by decide)).1
    rcases hE _ _ mk 0 [] 0 (rc + 1) (cc + 1) (a + 3) v 0 h3 (by decide) (by decide) ⟨by decide, Or.inl rfl⟩ (Or.inl rfl) with ⟨M2, S2, rc2, cc2, a2, r2, w1, w2, w3, w4, w5, w6⟩ | w
    · rw [w1, w2, tb_l, bs]
      dsimp only
      have j8 : cI M2 tu' 8 = nI ni := by rw [w5.1 tu' tn (by omega) (by omega)]; exact i8
      have j9 : cI M2 tu' 9 = nI ns := by rw [w5.1 tu' tn (by omega) (by omega)]; exact i9
      have j25 : mA S2 25 (24 * bn + u) = nI ni := by rw [w5.2.2.2.2.2.2.1 25 (by decide) (by decide) (by decide)]; exact q5
      exact FR.io (a := a2) (stat_tail (N := N) (x := x) w6 (by omega) hu (by rw [w5.2.2.1]; exact ht1) j8 j9 q3 q4 j25 q7 (by rw [w5.2.2.2.2.2.2.2.1]; exact q8) hN) w5 tn (by omega) (by omega)
    · right
      refine (w.go (n' := 9000) (fun f S1 d => ?_))
      obtain ⟨r, S2, g1, g2, g3⟩ := d.em hP.1.1 hP.1.2.1 (by omega) N 5 (mF S1 49) (mA S1 25 (24 * bn + u))
      exact ⟨S2, by rw [g2, bs]; exact d244 g3 N _ _ _ _ _, g3.le (by omega)⟩
  · exact Or.inr (q.le (by omega))
end STAT
