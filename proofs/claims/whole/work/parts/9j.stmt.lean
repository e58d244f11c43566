/-! statements, read by both: the plain ones -/
theorem nx_8 (rc : Nat) (tl : List Nat) (r : Nat) : nxt rc 8 (1, tl, r) = (0, tl, r + 1) := rfl
section STMT
variable {N z b bn sm size t nd nu nm iu : Nat} {ex : Nat → Nat → Prop} {K0 K : Ka} {M M' : Cm} {S S' : Ms} {mk : List Mk} {j : Jt} {rc cc a v rv dp w h kc kr lv : Nat} {tl : List Nat}
theorem PT.eS (h : PT z K M S size t a) (i r : Nat) (x1 x2 x3 : Int32) : PT z K M (emS S i r x1 x2 x3) size t a := by
  obtain ⟨h1, h2, h3, h4, h5, h6, h7, h8⟩ := h
  refine ⟨h1, ?_, h3, by rw [emS_f (by decide)]; exact h4, by rw [emS_f (by decide)]; exact h5, h6, h7, h8⟩
  unfold TKS TK1 at h2 ⊢
  rw [emS_o (by omega), emS_o (by omega)]
  exact h2
theorem PS.srv (hP : PS z b bn sm size t nd nu nm iu ex K0 K M S mk j rc cc a v 0 dp) {rv' : Nat} (hr : a ≤ rv') : PS z b bn sm size t nd nu nm iu ex K0 K M S mk j rc cc a v rv' dp := by
  obtain ⟨e, s, p, c, dd, l, q⟩ := hP
  exact ⟨e, s, p, c, dd.setrv hr, l, q⟩
/-- an instruction that the class puts behind the sign, the reference ahead of it -/
theorem semi {r : Nat} (hP : PS z b bn sm size t nd nu nm iu ex K0 K M S mk (h, tl, r) rc cc a (v + 1) rv w) {x : Nat × Nat × Nat} {ρ : Nat} (hx : x.1 < 10 ∨ 13 < x.1) (h31 : x.1 ≠ 31) (hl : ¬ (25 ≤ x.1 ∧ x.1 ≤ 27)) (he : EMC bn S nd nu mk (h, tl, r) x ρ) (h28 : x.1 < 28) (hN : 30 < N) {n : Nat} (hn : 8001 ≤ n) :
    (a < t ∧ fT_X3_take N (z + 7) 59 K M = some (.inl (K, mv z M (a + 1))) ∧ fT_X5_emit N sm (cw bn S x) K (mv z M (a + 1)) = some (.inl (nI cc, K, emC (mv z M (a + 1)) sm cc (cw bn S x))) ∧ fM_takeSign N 59 (emS S (10000 * bn + rc) rc (rfd (10000 * bn) x).1 (rfd (10000 * bn) x).2.1 (rfd (10000 * bn) x).2.2) = some (emS (pF S 7 (nI (a + 1))) (10000 * bn + rc) rc (rfd (10000 * bn) x).1 (rfd (10000 * bn) x).2.1 (rfd (10000 * bn) x).2.2) ∧ FR z b sm K0 M (emC (mv z M (a + 1)) sm cc (cw bn S x)) S (emS (pF S 7 (nI (a + 1))) (10000 * bn + rc) rc (rfd (10000 * bn) x).1 (rfd (10000 * bn) x).2.1 (rfd (10000 * bn) x).2.2) ∧
      PS z b bn sm size t nd nu nm iu ex K0 K (emC (mv z M (a + 1)) sm cc (cw bn S x)) (emS (pF S 7 (nI (a + 1))) (10000 * bn + rc) rc (rfd (10000 * bn) x).1 (rfd (10000 * bn) x).2.1 (rfd (10000 * bn) x).2.2) mk (nxt rc x.1 (h, tl, ρ)) (rc + 1) (cc + 1) (a + 1) (v + 2) rv w) ∨
    (∃ f S', FLT f ∧ fT_X3_take N (z + 7) 59 K M = some (.inr (K, wI M (z + 7) 5 (nI f))) ∧ fM_takeSign N 59 (emS S (10000 * bn + rc) rc (rfd (10000 * bn) x).1 (rfd (10000 * bn) x).2.1 (rfd (10000 * bn) x).2.2) = some S' ∧ DDs b bn n S f S') := by
  have ht := hP.t4
  have hr := hP.room
  rcases l_sign (hP.2.2.1.eS (10000 * bn + rc) rc (rfd (10000 * bn) x).1 (rfd (10000 * bn) x).2.1 (rfd (10000 * bn) x).2.2) N (c := 59) (by decide) (by decide) with ⟨-, g1, g2, g3⟩ | ⟨f, f1, f2, f3⟩
  · left
    have h1 := hP.tk (a' := a + 1) (by omega) (by omega)
    have h1' : PS z b bn sm size t nd nu nm iu ex K0 K (mv z M (a + 1)) (pF S 7 (nI (a + 1))) mk (h, tl, r) rc cc (a + 1) (v + 2 + 1) rv w := h1.less (by omega)
    obtain ⟨h2, f2⟩ := h1'.em (x := x) (ρ := ρ) hx h31 hl he
    have e : cw bn (pF S 7 (nI (a + 1))) x = cw bn S x := rfl
    rw [e] at h2 f2
    refine ⟨g1, g2, em5 h1'.2.2.2.1 h1'.room.2.2.2.2.2 N _, ?_, (FR.mv _ _ hP.hz).tr f2, h2.drop h28⟩
    rw [emS_p7]
    exact g3
  · right
    have d := hP.dds f1
    refine ⟨f, _, f1, f2, f3, ⟨⟨f1, rfl⟩, ?_, d.2.2.1, d.2.2.2.1, rc + 1, rfl, by omega, fun k k1 k2 => emS_o (S := S) (r := rc) (by omega)⟩⟩
    exact (FR.em (M := M) (S := S) (cc := cc) (rc := rc) hP.1 (by omega) 0 (rfd (10000 * bn) x).1 (rfd (10000 * bn) x).2.1 (rfd (10000 * bn) x).2.2).2.2.2.2.2.2.2.2.2.tr (AgO.pF o8 _)
/-- the reference at a statement that is none of while, if, try -/
theorem m_plain (hP : PS z b bn sm size t nd nu nm iu ex K0 K M S mk j rc cc a v rv w) (N : Nat) (GP : Nat → Ms → Option Ms) (h20 : cI M (z + 3) a ≠ nI 148) (h18 : cI M (z + 3) a ≠ nI 146) (h21 : cI M (z + 3) a ≠ nI 149) : fM_statement N GP S = ((GP 3 (emS S (10000 * bn + rc) rc 1 0 0)).bind fun o133 => (fM_takeSign N 59 o133).bind fun o139 => some o139) := by
  have r20 : fM_hasWord N 20 S = some (0, S) := hP.nW N (c := 20) (by decide) h20
  have p1 := hP.2.2.1.eS (10000 * bn + rc) rc 1 0 0
  have r18 : fM_hasWord N 18 (emS S (10000 * bn + rc) rc 1 0 0) = some (0, emS S (10000 * bn + rc) rc 1 0 0) := by
    rcases l_hasW p1 N (w := 18) (by decide) with q | q
    · exact absurd q.1 h18
    · exact q.2
  have r21 : fM_hasWord N 21 (emS S (10000 * bn + rc) rc 1 0 0) = some (0, emS S (10000 * bn + rc) rc 1 0 0) := by
    rcases l_hasW p1 N (w := 21) (by decide) with q | q
    · exact absurd q.1 h21
    · exact q.2
  unfold fM_statement
  rw [r20, bs]; dsimp only
  rw [if_pos rfl, hP.wS N, bs]; dsimp only
  rw [r18, bs]; dsimp only
  rw [if_pos rfl, r21, bs]; dsimp only
  rw [if_pos rfl]
  rfl
theorem gd5' (N : Nat) (hN : 1 < N) {k : Nat} (hk : 4 ≤ k) {S : Ms} {f : Nat} (h : DS S f) : gP N k 5 S = some S := by
  obtain ⟨k, rfl⟩ : ∃ k', k = k' + 4 := ⟨k - 4, by omega⟩
  exact gd5 h N hN k
/-- check -/
theorem s_check (hP : PS z b bn sm size t nd nu nm iu ex K0 K M S mk (0, tl, 0) rc cc a v 0 w) (hT : TCx mk tl (7 * (10 - w) + 7)) (hw : w ≤ 10) (hk : cI M (z + 3) a = 144) (hN : 4010 < N) (hkr : kr ≤ 150) (hE : HLx N z b bn sm size t nd nu nm iu ex K0 K 0 w kc kr) (s0 : Int32) :
    EOk z b bn sm size t nd nu nm iu ex K0 K M S mk 0 tl a (v + 1) 0 w (7 * (10 - w) + 7) (8010 + 3 * (kr + 1)) (bT_X3_readStatement_7 N (gB N kc) (z + 7) (nI w) s0 K M) ((gP N (kr + 1) 3 S).bind fun o133 => (fM_takeSign N 59 o133).bind fun o139 => some o139) := by
  have ht := hP.t4
  have r14 : fM_hasWord N 14 S = some (0, S) := hP.nW N (c := 14) (by decide) (by rw [hk]; decide)
  have r15 : fM_hasWord N 15 S = some (0, S) := hP.nW N (c := 15) (by decide) (by rw [hk]; decide)
  obtain ⟨hl, r16⟩ := hP.yW N (c := 16) (by decide) hk
  have r16' : fM_hasWord N 16 S = some (1, pF S 7 (nI (a + 1))) := r16
  have h1 := hP.tk (a' := a + 1) (by omega) (by omega)
  have h1' : PS z b bn sm size t nd nu nm iu ex K0 K (mv z M (a + 1)) (pF S 7 (nI (a + 1))) mk (0, tl, 0) rc cc (a + 1) (v + 1 + 1) 0 w := h1.less (by omega)
  have cls : bT_X3_readStatement_7 N (gB N kc) (z + 7) (nI w) s0 K M = tb (gB N kc 5 (z + 7) 0 (nI w) K (mv z M (a + 1))) fun o185 => (bT_X3_readStatement_188 N (gB N kc)) (z + 7) o185.1 o185.2 := by
    unfold bT_X3_readStatement_7
    rw [gd_k hP.k7, hP.kn, hk, if_neg (by decide), if_neg (by decide), if_neg (by decide), if_pos rfl, hP.mvC N hl, bs]
  have ref : gP N (kr + 1) 3 S = ((gP N kr 5 (pF S 7 (nI (a + 1)))).bind fun o99 => (fM_emit N 8 0 0 o99).bind fun o107 => (bM_plain_145 N (gP N kr)) o107.2) := by
    rw [uP_3]
    unfold fM_plain
    rw [r14, bs]; dsimp only
    rw [if_pos rfl, r15, bs]; dsimp only
    rw [if_pos rfl, r16', bs]; dsimp only
    rw [if_neg (by decide)]
  rw [cls, ref]
  refine EOk.fr (a := a + 1) ?_ (FR.mv (a + 1) (nI (a + 1)) hP.hz) (by omega)
  rcases hE _ _ mk 0 tl 0 rc cc (a + 1) (v + 1) 0 h1' (by omega) (by omega) (hT.le (by omega)) (Or.inl rfl) with ⟨M1, S1, rc1, cc1, a1, r1, q1, q2, q3, q4, q5, q6⟩ | q
  · have q1' : gB N kc 5 (z + 7) 0 (nI w) K (mv z M (a + 1)) = some (.inl (K, M1)) := q1
    have q2' : gP N kr 5 (pF S 7 (nI (a + 1))) = some S1 := q2
    rw [q1', q2', tb_l, bs, q6.wS N, bs]
    dsimp only
    unfold bT_X3_readStatement_188 bT_X3_readStatement_194 bT_X3_readStatement_202 bT_X3_readStatement_270 bM_plain_145
    rw [gd_k hP.k7, bs]
    rcases semi (N := N) q6 (x := (8, 0, 0)) (ρ := 7 * (10 - w) + 4) (by decide) (by decide) (by decide) (EMC.mk' (by omega) (VO.triv (by decide)) (by decide) (by decide) (by decide) (by decide) (by omega) (hT.le (by omega))) (by decide) (by omega) (n := 8010 + 3 * (kr + 1)) (by omega) with ⟨g1, g2, g3, g4, g5, g6⟩ | ⟨f, S2, f1, f2, f3, f4⟩
    · have g4' : fM_takeSign N 59 (emS S1 (10000 * bn + rc1) rc1 8 0 0) = _ := g4
      have g3' := em3 (q6.tk (a' := a1 + 1) (by omega) (by omega)).2.2.2.1 (q6.tk (a' := a1 + 1) (by omega) (by omega)).room.2.2.2.2.2 N 14 0 0
      rw [g2, tb_l, g4', bs]
      dsimp only
      rw [gd_k hP.k7, g3', ta_l]
      exact Or.inl ⟨_, _, rc1 + 1, cc1 + 1, a1 + 1, 7 * (10 - w) + 4 + 1, rfl, rfl, by omega, by omega, q5.tr g5, g6.less (by omega)⟩
    · have f3' : fM_takeSign N 59 (emS S1 (10000 * bn + rc1) rc1 8 0 0) = some S2 := f3
      rw [f2, tb_r, f3', bs]
      exact Or.inr ((q6.fb f1 rfl rfl f4).fr q5)
  · right
    have q' : FB z b bn K0 (mv z M (a + 1)) (pF S 7 (nI (a + 1))) (8010 + 3 * kr) (gB N kc 5 (z + 7) 0 (nI w) K (mv z M (a + 1))) (gP N kr 5 (pF S 7 (nI (a + 1)))) := q
    rw [Option.bind_assoc]
    refine (q'.go (n' := 8010 + 3 * (kr + 1)) (fun f S1 d => ?_))
    obtain ⟨r, S2, g1, g2, g3⟩ := d.em hP.1.1 hP.1.2.1 (by omega) N 8 0 0
    refine ⟨S2, ?_, g3.le (by omega)⟩
    rw [g2, bs]
    unfold bM_plain_145
    rw [bs, d_tS g3.1, bs]
/-- order -/
theorem s_order (hP : PS z b bn sm size t nd nu nm iu ex K0 K M S mk (0, tl, 0) rc cc a v 0 w) (hT : TCx mk tl (7 * (10 - w) + 7)) (hw : w ≤ 10) (hk : cI M (z + 3) a = 143) (hN : 4010 < N) (hkr : kr ≤ 150) (hkr4 : 4 ≤ kr) (hE : HLx N z b bn sm size t nd nu nm iu ex K0 K 0 w kc kr) (s0 : Int32) :
    EOk z b bn sm size t nd nu nm iu ex K0 K M S mk 0 tl a (v + 1) 0 w (7 * (10 - w) + 7) (8010 + 3 * (kr + 1)) (bT_X3_readStatement_7 N (gB N kc) (z + 7) (nI w) s0 K M) ((gP N (kr + 1) 3 S).bind fun o133 => (fM_takeSign N 59 o133).bind fun o139 => some o139) := by
  have ht := hP.t4
  have hroom := hP.room
  have r14 : fM_hasWord N 14 S = some (0, S) := hP.nW N (c := 14) (by decide) (by rw [hk]; decide)
  obtain ⟨hl, r15⟩ := hP.yW N (c := 15) (by decide) hk
  have r15' : fM_hasWord N 15 S = some (1, pF S 7 (nI (a + 1))) := r15
  have h1 := hP.tk (a' := a + 1) (by omega) (by omega)
  have cls : bT_X3_readStatement_7 N (gB N kc) (z + 7) (nI w) s0 K M = tb (fT_X3_takeDevice N (z + 7) K (mv z M (a + 1))) fun o142 => (bT_X3_readStatement_145 N (gB N kc)) (z + 7) (nI w) o142.1 o142.2.1 o142.2.2 := by
    unfold bT_X3_readStatement_7
    rw [gd_k hP.k7, hP.kn, hk, if_neg (by decide), if_neg (by decide), if_pos rfl, hP.mvC N hl, bs]
  have ref : gP N (kr + 1) 3 S = ((fM_takeDevice N (pF S 7 (nI (a + 1)))).bind fun o69 => (gP N kr 5 o69.2).bind fun o74 => (fM_emit N 7 o69.1 0 o74).bind fun o82 => (bM_plain_145 N (gP N kr)) o82.2) := by
    rw [uP_3]
    unfold fM_plain
    rw [r14, bs]; dsimp only
    rw [if_pos rfl, r15', bs]; dsimp only
    rw [if_neg (by decide)]
  rw [cls, ref]
  rcases l_dev h1.2.2.1 h1.2.1.1 N (by omega) with ⟨d, d1, d2, d3, d4, d5⟩ | ⟨f, f1, f2, f3⟩
  · have h2 := h1.tk (a' := a + 2) (by omega) (by omega)
    rw [mv_mv, pF_pF] at h2
    have h2' : PS z b bn sm size t nd nu nm iu ex K0 K (mv z M (a + 2)) (pF S 7 (nI (a + 2))) mk (0, tl, 0) rc cc (a + 2) (v + 1 + 1) 0 w := h2.less (by omega)
    rw [d4, d5, tb_l, bs, mv_mv, pF_pF]
    dsimp only
    refine EOk.fr (a := a + 2) ?_ (FR.mv (a + 2) (nI (a + 2)) hP.hz) (by omega)
    unfold bT_X3_readStatement_145
    rw [gd_k hP.k7]
    rcases hE _ _ mk 0 tl 0 rc cc (a + 2) (v + 1) 0 h2' (by omega) (by omega) (hT.le (by omega)) (Or.inl rfl) with ⟨M1, S1, rc1, cc1, a1, r1, q1, q2, q3, q4, q5, q6⟩ | q
    · have q1' : gB N kc 5 (z + 7) 0 (nI w) K (mv z M (a + 2)) = some (.inl (K, M1)) := q1
      have q2' : gP N kr 5 (pF S 7 (nI (a + 2))) = some S1 := q2
      rw [q1', q2', tb_l, bs, q6.wS N, bs]
      dsimp only
      unfold bT_X3_readStatement_153 bT_X3_readStatement_159 bT_X3_readStatement_168 bT_X3_readStatement_270 bM_plain_145
      rw [gd_k hP.k7, bs]
      rcases semi (N := N) q6 (x := (7, d, 0)) (ρ := 7 * (10 - w) + 4) (by simp) (by simp) (by simp) (EMC.mk' (by omega) ⟨fun w => absurd w (by simp), fun w => absurd w (by simp), fun w => absurd w (by simp), fun w => absurd w (by simp), fun _ => d1, fun w => absurd w (by simp), fun w => absurd w (by simp)⟩ (by decide) (by show pp 7 ≤ 1; decide) (by simp) (by simp) (by omega) (hT.le (by omega))) (by simp) (by omega) (n := 8010 + 3 * (kr + 1)) (by omega) with ⟨g1, g2, g3, g4, g5, g6⟩ | ⟨f, S2, f1, f2, f3, f4⟩
      · have g4' : fM_takeSign N 59 (emS S1 (10000 * bn + rc1) rc1 7 (nI d) 0) = _ := g4
        have g3' := em3 (q6.tk (a' := a1 + 1) (by omega) (by omega)).2.2.2.1 (q6.tk (a' := a1 + 1) (by omega) (by omega)).room.2.2.2.2.2 N 13 (nI d) 0
        rw [g2, tb_l, g4', bs]
        dsimp only
        rw [gd_k hP.k7, g3', ta_l]
        exact Or.inl ⟨_, _, rc1 + 1, cc1 + 1, a1 + 1, 7 * (10 - w) + 4 + 1, rfl, rfl, by omega, by omega, q5.tr g5, g6.less (by omega)⟩
      · have f3' : fM_takeSign N 59 (emS S1 (10000 * bn + rc1) rc1 7 (nI d) 0) = some S2 := f3
        rw [f2, tb_r, f3', bs]
        exact Or.inr ((q6.fb f1 rfl rfl f4).fr q5)
    · right
      have q' : FB z b bn K0 (mv z M (a + 2)) (pF S 7 (nI (a + 2))) (8010 + 3 * kr) (gB N kc 5 (z + 7) 0 (nI w) K (mv z M (a + 2))) (gP N kr 5 (pF S 7 (nI (a + 2)))) := q
      rw [Option.bind_assoc]
      refine (q'.go (n' := 8010 + 3 * (kr + 1)) (fun f S1 d => ?_))
      obtain ⟨r, S2, g1, g2, g3⟩ := d.em hP.1.1 hP.1.2.1 (by omega) N 7 (nI _) 0
      refine ⟨S2, ?_, g3.le (by omega)⟩
      rw [g2, bs]
      unfold bM_plain_145
      rw [bs, d_tS g3.1, bs]
  · right
    have d := (h1.dds f1).p7 (nI (a + 1 + 1))
    obtain ⟨r, S2, g1, g2, g3⟩ := d.em hP.1.1 hP.1.2.1 (by omega) N 7 (-1) 0
    refine (h1.fb f1 (by rw [f2, tb_r]) (S' := S2) ?_ (g3.le (by omega))).pre (mv_A _) (AgO.pF o7 _) (fun _ _ _ => rfl)
    rw [f3, bs]
    dsimp only
    rw [gd5' N (by omega) hkr4 d.1, bs, g2, bs]
    unfold bM_plain_145
    dsimp only
    rw [bs, d_tS g3.1, bs]
/-- fail -/
theorem s_fail (hP : PS z b bn sm size t nd nu nm iu ex K0 K M S mk (0, tl, 0) rc cc a v 0 w) (hT : TCx mk tl (7 * (10 - w) + 7)) (hw : w ≤ 10) (hk : cI M (z + 3) a = 145) (hN : 4010 < N) (hkr : kr ≤ 150) (s0 : Int32) :
    EOk z b bn sm size t nd nu nm iu ex K0 K M S mk 0 tl a (v + 1) 0 w (7 * (10 - w) + 7) (8010 + 3 * (kr + 1)) (bT_X3_readStatement_7 N (gB N kc) (z + 7) (nI w) s0 K M) ((gP N (kr + 1) 3 S).bind fun o133 => (fM_takeSign N 59 o133).bind fun o139 => some o139) := by
  have ht := hP.t4
  have hroom := hP.room
  have r14 : fM_hasWord N 14 S = some (0, S) := hP.nW N (c := 14) (by decide) (by rw [hk]; decide)
  have r15 : fM_hasWord N 15 S = some (0, S) := hP.nW N (c := 15) (by decide) (by rw [hk]; decide)
  have r16 : fM_hasWord N 16 S = some (0, S) := hP.nW N (c := 16) (by decide) (by rw [hk]; decide)
  obtain ⟨hl, r17⟩ := hP.yW N (c := 17) (by decide) hk
  have r17' : fM_hasWord N 17 S = some (1, pF S 7 (nI (a + 1))) := r17
  have h1 := hP.tk (a' := a + 1) (by omega) (by omega)
  have cls : bT_X3_readStatement_7 N (gB N kc) (z + 7) (nI w) s0 K M = tb (fT_X3_takeNumber N (z + 7) 1 9 K (mv z M (a + 1))) fun o223 => (bT_X3_readStatement_226 N (gB N kc)) (z + 7) (z + 7) 15 o223.1 o223.2.1 o223.2.2 := by
    unfold bT_X3_readStatement_7
    rw [gd_k hP.k7, hP.kn, hk, if_neg (by decide), if_neg (by decide), if_neg (by decide), if_neg (by decide), if_pos rfl, hP.mvC N hl, bs]
  have ref : gP N (kr + 1) 3 S = ((fM_takeNumber N 1 9 (pF S 7 (nI (a + 1)))).bind fun o130 => (fM_emit N 9 o130.1 0 o130.2).bind fun o134 => (bM_plain_145 N (gP N kr)) o134.2) := by
    rw [uP_3]
    unfold fM_plain
    rw [r14, bs]; dsimp only
    rw [if_pos rfl, r15, bs]; dsimp only
    rw [if_pos rfl, r16, bs]; dsimp only
    rw [if_pos rfl, r17', bs]; dsimp only
    rw [if_neg (by decide)]
  rw [cls, ref]
  rcases l_numb h1.2.2.1 N (lo := 1) (hi := 9) (by decide) (by decide) with ⟨q, q1, q2, q3, q4, q5, q6, q7⟩ | ⟨f, f1, f2, f3⟩
  · have q6' : fT_X3_takeNumber N (z + 7) 1 9 K (mv z M (a + 1)) = some (.inl (nI q, K, mv z M (a + 2))) := by rw [← mv_mv z M (a + 1) (a + 2)]; exact q6
    have q7' : fM_takeNumber N 1 9 (pF S 7 (nI (a + 1))) = some (nI q, pF S 7 (nI (a + 2))) := by rw [← pF_pF S 7 (nI (a + 1)) (nI (a + 2))]; exact q7
    have h2 := h1.tk (a' := a + 2) (by omega) (by omega)
    rw [mv_mv, pF_pF] at h2
    have h2' : PS z b bn sm size t nd nu nm iu ex K0 K (mv z M (a + 2)) (pF S 7 (nI (a + 2))) mk (0, tl, 0) rc cc (a + 2) (v + 1 + 1) 0 w := h2.less (by omega)
    obtain ⟨h3, g3⟩ := h2'.em (x := (9, q, 0)) (ρ := 7 * (10 - w) + 4) (by simp) (by simp) (by simp) (EMC.mk' (Nat.zero_le _) ⟨fun w => absurd w (by simp), fun w => absurd w (by simp), fun w => absurd w (by simp), fun w => absurd w (by simp), fun w => absurd w (by simp), fun _ => ⟨q1, q2⟩, fun w => absurd w (by simp)⟩ (by decide) (by show pp 9 ≤ 0; decide) (by simp) (by simp) (by omega) (hT.le (by omega)))
    have h3' : PS z b bn sm size t nd nu nm iu ex K0 K _ _ mk (0, tl, 7 * (10 - w) + 4 + 1) (rc + 1) (cc + 1) (a + 2) (v + 1) 0 w := h3.drop (by simp)
    rw [q6', q7', tb_l, bs, h2'.wS N]
    dsimp only
    unfold bT_X3_readStatement_226 bT_X3_readStatement_230 bT_X3_readStatement_237 bT_X3_readStatement_270 bM_plain_145
    rw [gd_k hP.k7, h2'.wC N, ta_l, bs, bs]
    dsimp only
    rw [gd_k hP.k7]
    rcases l_sign h3'.2.2.1 N (c := 59) (by decide) (by decide) with ⟨-, x1, x2, x3⟩ | ⟨f, f1, f2, f3⟩
    · have x2' : fT_X3_take N (z + 7) 59 K (emC (mv z M (a + 2)) sm cc (wd 15 (nI q) 0)) = some (.inl (K, mv z (emC (mv z M (a + 2)) sm cc (wd 15 (nI q) 0)) (a + 2 + 1))) := x2
      have x3' : fM_takeSign N 59 (emS (pF S 7 (nI (a + 2))) (10000 * bn + rc) rc 9 (nI q) 0) = some (pF (emS (pF S 7 (nI (a + 2))) (10000 * bn + rc) rc 9 (nI q) 0) 7 (nI (a + 2 + 1))) := x3
      rw [x2', tb_l, x3', bs]
      exact Or.inl ⟨_, _, rc + 1, cc + 1, a + 2 + 1, 7 * (10 - w) + 4 + 1, rfl, rfl, by omega, by omega, ((FR.mv (a + 2) (nI (a + 2)) hP.hz).tr g3).tr (FR.mv _ _ hP.hz), (h3'.tk (by omega) (by omega)).less (by omega)⟩
    · have f2' : fT_X3_take N (z + 7) 59 K (emC (mv z M (a + 2)) sm cc (wd 15 (nI q) 0)) = some (.inr (K, wI (emC (mv z M (a + 2)) sm cc (wd 15 (nI q) 0)) (z + 7) 5 (nI f))) := f2
      have f3' : fM_takeSign N 59 (emS (pF S 7 (nI (a + 2))) (10000 * bn + rc) rc 9 (nI q) 0) = some (pF (emS (pF S 7 (nI (a + 2))) (10000 * bn + rc) rc 9 (nI q) 0) 8 (nI f)) := f3
      rw [f2', tb_r, f3', bs]
      exact Or.inr ((h3'.fb f1 rfl rfl ((h3'.dds f1).le (by omega))).fr ((FR.mv (a + 2) (nI (a + 2)) hP.hz).tr g3))
  · right
    have f2' : fT_X3_takeNumber N (z + 7) 1 9 K (mv z M (a + 1)) = some (.inr (K, wI (mv z M (a + 1)) (z + 7) 5 (nI f))) := f2
    have f3' : fM_takeNumber N 1 9 (pF S 7 (nI (a + 1))) = some (0, pF (pF (pF S 7 (nI (a + 1))) 8 (nI f)) 7 (nI (a + 1 + 1))) := f3
    have d := (h1.dds f1).p7 (nI (a + 1 + 1))
    obtain ⟨r, S2, g1, g2, g3⟩ := d.em hP.1.1 hP.1.2.1 (by omega) N 9 0 0
    refine (h1.fb f1 (by rw [f2', tb_r]) (S' := S2) ?_ (g3.le (by omega))).pre (mv_A _) (AgO.pF o7 _) (fun _ _ _ => rfl)
    rw [f3', bs]
    dsimp only
    rw [g2, bs]
    unfold bM_plain_145
    dsimp only
    rw [bs, d_tS g3.1, bs]
end STMT
