/-! PARTS and expressions, read by both -/
def HLx (N z b bn sm size t nd nu nm iu : Nat) (ex : Nat → Nat → Prop) (K0 K : Ka) (lv w kc kr : Nat) : Prop := ∀ (M : Cm) (S : Ms) (mk : List Mk) (h : Nat) (tl : List Nat) (r rc cc a v rv : Nat), PS z b bn sm size t nd nu nm iu ex K0 K M S mk (h, tl, r) rc cc a (v + 1) rv w → h ≤ 3 * w + lv → r ≤ 90 → TCx mk tl (7 * (10 - w) + 4) → (rv = 0 ∨ rv + 3 ≤ a) → EOk z b bn sm size t nd nu nm iu ex K0 K M S mk (h + 1) tl a (v + 1) rv w (7 * (10 - w) + (4 - lv)) (8010 + 3 * kr) (gB N kc 5 (z + 7) (nI lv) (nI w) K M) (gP N kr (5 + lv) S)
def HPx (N z b bn sm size t nd nu nm iu : Nat) (ex : Nat → Nat → Prop) (K0 K : Ka) (w kc kr : Nat) : Prop := ∀ (M : Cm) (S : Ms) (mk : List Mk) (h : Nat) (tl : List Nat) (r rc cc a v rv : Nat), PS z b bn sm size t nd nu nm iu ex K0 K M S mk (h, tl, r) rc cc a (v + 1) rv w → h ≤ 3 * w + 3 → r ≤ 90 → TCx mk tl (7 * (10 - w) + 1) → (rv = 0 ∨ rv + 3 ≤ a) → EOk z b bn sm size t nd nu nm iu ex K0 K M S mk (h + 1) tl a (v + 1) rv w (7 * (10 - w) + 1) (8010 + 3 * kr) (gB N kc 6 (z + 7) (nI w) 0 K M) (gP N kr 8 S)
section EXPR
variable {N z b bn sm size t nd nu nm iu : Nat} {ex : Nat → Nat → Prop} {K0 K : Ka} {M M' : Cm} {S S' : Ms} {mk : List Mk} {j : Jt} {rc cc a v rv dp w h kc kr lv : Nat} {tl : List Nat}
theorem EOk.fr {hh a0 bnd n : Nat} {c : Option ((Ka × Cm) ⊕ (Ka × Cm))} {o : Option Ms} (q : EOk z b bn sm size t nd nu nm iu ex K0 K M' S' mk hh tl a v rv w bnd n c o) (hf : FR z b sm K0 M M' S S') (ha : a0 ≤ a) : EOk z b bn sm size t nd nu nm iu ex K0 K M S mk hh tl a0 v rv w bnd n c o := by
  rcases q with ⟨M1, S1, rc1, cc1, a1, r1, q1, q2, q3, q4, q5, q6⟩ | q
  · exact Or.inl ⟨M1, S1, rc1, cc1, a1, r1, q1, q2, by omega, q4, hf.tr q5, q6⟩
  · exact Or.inr (q.fr hf)
/-- in brackets -/
theorem w_par (hP : PS z b bn sm size t nd nu nm iu ex K0 K M S mk (h, tl, 0) rc cc a v rv (w + 1)) (hw : w < 10) (hh : h ≤ 3 * w + 3) (hT : TCx mk tl (7 * (10 - w) + 1)) (hrv : rv = 0 ∨ rv + 3 ≤ a) (hk : cI M (z + 3) a = 40) (hN : 2001 < N) (hE : HLx N z b bn sm size t nd nu nm iu ex K0 K 0 (w + 1) kc kr) (s0 : Int32) :
    EOk z b bn sm size t nd nu nm iu ex K0 K M S mk (h + 1) tl a (v + 1) rv (w + 1) (7 * (10 - w) + 1) (8010 + 3 * (kr + 1)) (bT_X3_readPart_12 N (gB N kc) (z + 7) (nI w) s0 K M) (fM_partWithin N (gP N kr) S) := by
  have ht := hP.t4
  have nn : cI M (z + 3) a ≠ 3 := by rw [hk]; decide
  obtain ⟨hl, r40⟩ := hP.yS N (c := 40) (by decide) (by decide) hk
  have r40' : fM_hasSign N 40 S = some (1, pF S 7 (nI (a + 1))) := r40
  have h1 := hP.tk (a' := a + 1) (by omega) (by omega)
  have h1' : PS z b bn sm size t nd nu nm iu ex K0 K (mv z M (a + 1)) (pF S 7 (nI (a + 1))) mk (h, tl, 0) rc cc (a + 1) (v + 1 + 1) rv (w + 1) := h1.less (by omega)
  have cls : bT_X3_readPart_12 N (gB N kc) (z + 7) (nI w) s0 K M = tb (gB N kc 5 (z + 7) 0 (nI (w + 1)) K (mv z M (a + 1))) fun o116 => (bT_X3_readPart_119 N (gB N kc)) (z + 7) o116.1 o116.2 := by
    unfold bT_X3_readPart_12
    rw [gd_k hP.k7, hP.kn, hk, if_neg (by decide), if_neg (by decide), if_pos rfl, hP.mvC N hl, bs, nI_1]
  have ref : fM_partWithin N (gP N kr) S = ((gP N kr 5 (pF S 7 (nI (a + 1)))).bind fun o => (fM_takeSign N 41 o).bind fun o' => bM_partWithin_222 N (gP N kr) o') := by
    unfold fM_partWithin
    rw [hP.m7, ck_n (show a < 4002 by omega) (by decide), nI_clamp (show a < 2 ^ 31 by omega), if_neg (m_nn hP nn), r40', bs]; dsimp only
    rw [if_neg (by decide)]
  rw [cls, ref]
  refine EOk.fr (a := a + 1) ?_ (FR.mv (a + 1) (nI (a + 1)) hP.hz) (by omega)
  rcases hE _ _ mk h tl 0 rc cc (a + 1) (v + 1) rv h1' (by omega) (by omega) (hT.le (by omega)) (by omega) with ⟨M1, S1, rc1, cc1, a1, r1, q1, q2, q3, q4, q5, q6⟩ | q
  · have q1' : gB N kc 5 (z + 7) 0 (nI (w + 1)) K (mv z M (a + 1)) = some (.inl (K, M1)) := q1
    have q2' : gP N kr 5 (pF S 7 (nI (a + 1))) = some S1 := q2
    rw [q1', q2', tb_l, bs]
    dsimp only
    unfold bT_X3_readPart_119 bT_X3_readPart_125 bT_X3_readPart_213 bM_partWithin_222
    rw [gd_k hP.k7]
    rcases l_sign q6.2.2.1 N (c := 41) (by decide) (by decide) with ⟨-, g1, g2, g3⟩ | ⟨f, f1, f2, f3⟩
    · have g2' : fT_X3_take N (z + 7) 41 K M1 = some (.inl (K, mv z M1 (a1 + 1))) := g2
      have g3' : fM_takeSign N 41 S1 = some (pF S1 7 (nI (a1 + 1))) := g3
      rw [g2', g3', tb_l, bs]
      exact Or.inl ⟨_, _, rc1, cc1, a1 + 1, r1, rfl, rfl, by omega, by omega, q5.tr (FR.mv _ _ hP.hz), (q6.tk (by omega) (by omega)).less (by omega)⟩
    · have f2' : fT_X3_take N (z + 7) 41 K M1 = some (.inr (K, wI M1 (z + 7) 5 (nI f))) := f2
      have f3' : fM_takeSign N 41 S1 = some (pF S1 8 (nI f)) := f3
      have hr := q6.room
      exact Or.inr ((q6.fb f1 (by rw [f2', tb_r]) (by rw [f3', bs]) ((q6.dds f1).le (by omega))).fr q5)
  · right
    have q' : FB z b bn K0 (mv z M (a + 1)) (pF S 7 (nI (a + 1))) (8010 + 3 * kr) (gB N kc 5 (z + 7) 0 (nI (w + 1)) K (mv z M (a + 1))) (gP N kr 5 (pF S 7 (nI (a + 1)))) := q
    refine (q'.go (n' := 8010 + 3 * (kr + 1)) (fun f S1 d => ⟨S1, ?_, d.le (by omega)⟩))
    rw [d_tS d.1, bs]
    rfl
/-- a sign ahead -/
theorem w_neg (hP : PS z b bn sm size t nd nu nm iu ex K0 K M S mk (h, tl, 0) rc cc a v rv (w + 1)) (hw : w < 10) (hh : h ≤ 3 * w + 3) (hT : TCx mk tl (7 * (10 - w) + 1)) (hrv : rv = 0 ∨ rv + 3 ≤ a) (hk : cI M (z + 3) a = 45) (hN : 2001 < N) (hkr : kr ≤ 160) (hE : HPx N z b bn sm size t nd nu nm iu ex K0 K (w + 1) kc kr) (s0 : Int32) :
    EOk z b bn sm size t nd nu nm iu ex K0 K M S mk (h + 1) tl a (v + 1) rv (w + 1) (7 * (10 - w) + 1) (8010 + 3 * (kr + 1)) (bT_X3_readPart_12 N (gB N kc) (z + 7) (nI w) s0 K M) (fM_partWithin N (gP N kr) S) := by
  have ht := hP.t4
  have nn : cI M (z + 3) a ≠ 3 := by rw [hk]; decide
  have r40 : fM_hasSign N 40 S = some (0, S) := hP.nS N (c := 40) (by decide) (by decide) (by rw [hk]; decide)
  obtain ⟨hl, r45⟩ := hP.yS N (c := 45) (by decide) (by decide) hk
  have r45' : fM_hasSign N 45 S = some (1, pF S 7 (nI (a + 1))) := r45
  have h1 := hP.tk (a' := a + 1) (by omega) (by omega)
  have h1' : PS z b bn sm size t nd nu nm iu ex K0 K (mv z M (a + 1)) (pF S 7 (nI (a + 1))) mk (h, tl, 0) rc cc (a + 1) (v + 1 + 1) rv (w + 1) := h1.less (by omega)
  have cls : bT_X3_readPart_12 N (gB N kc) (z + 7) (nI w) s0 K M = tb (gB N kc 6 (z + 7) (nI (w + 1)) 0 K (mv z M (a + 1))) fun o142 => (bT_X3_readPart_145 N (gB N kc)) (z + 7) o142.1 o142.2 := by
    unfold bT_X3_readPart_12
    rw [gd_k hP.k7, hP.kn, hk, if_neg (by decide), if_neg (by decide), if_neg (by decide), if_pos rfl, hP.mvC N hl, bs, nI_1]
  have ref : fM_partWithin N (gP N kr) S = ((gP N kr 8 (pF S 7 (nI (a + 1)))).bind fun o => (fM_emit N 17 0 0 o).bind fun o' => bM_partWithin_222 N (gP N kr) o'.2) := by
    unfold fM_partWithin
    rw [hP.m7, ck_n (show a < 4002 by omega) (by decide), nI_clamp (show a < 2 ^ 31 by omega), if_neg (m_nn hP nn), r40, bs]; dsimp only
    rw [if_pos rfl, r45', bs]; dsimp only
    rw [if_neg (by decide)]
  rw [cls, ref]
  refine EOk.fr (a := a + 1) ?_ (FR.mv (a + 1) (nI (a + 1)) hP.hz) (by omega)
  rcases hE _ _ mk h tl 0 rc cc (a + 1) (v + 1) rv h1' (by omega) (by omega) (hT.le (by omega)) (by omega) with ⟨M1, S1, rc1, cc1, a1, r1, q1, q2, q3, q4, q5, q6⟩ | q
  · rw [q1, q2, tb_l, bs]
    dsimp only
    unfold bT_X3_readPart_145 bT_X3_readPart_153 bT_X3_readPart_213 bM_partWithin_222
    obtain ⟨h3, f3⟩ := q6.em (x := (17, 0, 0)) (ρ := 7 * (10 - w)) (by first | decide | simp) (by first | decide | simp) (by first | decide | simp) (EMC.mk' (by omega) (VO.triv (Or.inr (Or.inr (Or.inr (Or.inr (Or.inl ⟨by decide, by decide⟩)))))) (by omega) (by show 1 ≤ h + 1; omega) (by first | decide | simp) (by first | decide | simp) (by omega) hT)
    rw [gd_k hP.k7, q6.wC N, ta_l, q6.wS N, bs]
    exact Or.inl ⟨_, _, rc1 + 1, cc1 + 1, a1, 7 * (10 - w) + 1, rfl, rfl, by omega, Nat.le_refl _, q5.tr f3, h3.drop (by first | decide | simp)⟩
  · right
    refine (q.go (n' := 8010 + 3 * (kr + 1)) (fun f S1 d => ?_))
    obtain ⟨r, S2, g1, g2, g3⟩ := d.em hP.1.1 hP.1.2.1 (by omega) N 17 0 0
    refine ⟨S2, ?_, g3.le (by omega)⟩
    rw [g2, bs]
    rfl
theorem part_ok (hN : 2001 < N) (hw : w ≤ 10) (hkr : kr ≤ 150) (hE : w < 10 → HLx N z b bn sm size t nd nu nm iu ex K0 K 0 (w + 1) kc kr) (hF : w < 10 → HPx N z b bn sm size t nd nu nm iu ex K0 K (w + 1) kc kr) : HPx N z b bn sm size t nd nu nm iu ex K0 K w (kc + 1) (kr + 2) := by
  intro M S mk h tl r rc cc a v rv hP hh hr hT hrv
  have hroom := hP.room
  rw [uB_6, uP_8]
  have cl0 : fT_X3_readPart N (gB N kc) (z + 7) (nI w) K M = tb (fT_X3_refuseNoPart N (z + 7) (nI w) K M) fun o2 => (bT_X3_readPart_5 N (gB N kc)) (z + 7) (nI w) o2.1 o2.2 := by
    unfold fT_X3_readPart
    rw [gd_k hP.k7]
  rw [cl0]
  rcases rnp_ok hP hw N (by omega) (gP N (kr + 1)) with ⟨S1, w10, hk, c1, f1, h1, r1⟩ | ⟨f, S1, f1, f2, f3, f4⟩
  · rw [c1, tb_l, r1]
    dsimp only
    obtain ⟨h2, f2⟩ := h1.em (x := (1, 0, 0)) (ρ := 90) (by first | decide | simp) (by first | decide | simp) (by first | decide | simp) (EMC.st hr (by omega) hT.1 (hT.le (by omega)))
    have h2' : PS z b bn sm size t nd nu nm iu ex K0 K _ _ mk (h, tl, 0) (rc + 1) (cc + 1) a v rv (w + 1) := h2.drop (by first | decide | simp)
    unfold bT_X3_readPart_5
    rw [gd_k hP.k7, h1.wC N, ta_l, h1.wS N, bs]
    dsimp only
    have hk2 : cI (emC M sm cc (cw bn S1 (1, 0, 0))) (z + 3) a = cI M (z + 3) a := by rw [emC_I (by have := hP.hz; omega)]
    have ih : EOk z b bn sm size t nd nu nm iu ex K0 K (emC M sm cc (cw bn S1 (1, 0, 0))) (emS S1 (10000 * bn + rc) rc 1 0 0) mk (h + 1) tl a (v + 1) rv (w + 1) (7 * (10 - w) + 1) (8010 + 3 * (kr + 1)) (bT_X3_readPart_12 N (gB N kc) (z + 7) (nI w) (nI cc) K (emC M sm cc (cw bn S1 (1, 0, 0)))) (gP N (kr + 1) 9 (emS S1 (10000 * bn + rc) rc 1 0 0)) := by
      rw [uP_9]
      rcases hk with (q | q | q | q | q | q) | q
      · exact w_num h2' w10 hh hT (hk2.trans q) N (by omega) _ _ _ _
      · exact w_par h2' w10 hh hT hrv (hk2.trans q) hN (hE w10) _
      · exact w_neg h2' w10 hh hT hrv (hk2.trans q) hN (by omega) (hF w10) _
      · exact w_of h2' w10 hh hT (hk2.trans q) N (by omega) _ _ _ _ (by omega)
      · exact w_kb h2' w10 hh hT (Or.inl (hk2.trans q)) N (by omega) _ _ _ _
      · exact w_kb h2' w10 hh hT (Or.inr (hk2.trans q)) N (by omega) _ _ _ _
      · exact w_name h2' w10 hh hT hrv (hk2.trans q) N hN _ _ _ _ (by omega)
    rcases ih with ⟨M3, S3, rc3, cc3, a3, r3, q1, q2, q3, q4, q5, q6⟩ | q
    · left
      have q7 := q6.dps w
      refine ⟨M3, pF S3 50 (nI w), rc3, cc3, a3, r3, q1, ?_, q3, q4, ((f1.tr f2).tr q5).tr (FR.pF (Or.inl rfl) _), q7⟩
      have q2' : gP N (kr + 1) 9 (emS S1 (10000 * bn + rc) rc 1 0 0) = some S3 := q2
      rw [q2', bs]
      unfold bM_part_146
      have e50 : mF S3 50 = nI (w + 1) := q6.2.2.2.2.2.2.2.1
      rw [e50, sub1 w (by omega)]
    · right
      exact (q.gr (fun f S3 d => ⟨_, rfl, (d.p50 _).le (by omega)⟩)).fr (f1.tr f2)
  · exact Or.inr (hP.fb f1 (by rw [f2, tb_r]) f3 (f4.le (by omega)))
end EXPR
