/-! a place set -/
section ASSIGN
variable {N z b bn sm size t nd nu nm iu : Nat} {ex : Nat → Nat → Prop} {K0 K : Ka} {M M' : Cm} {S S' : Ms} {mk : List Mk} {j : Jt} {rc cc a v rv dp w h kc kr lv : Nat} {tl : List Nat}
theorem d_later {S : Ms} {f : Nat} (h : DS S f) (N : Nat) (x1 x2 x3 x4 : Int32) : fM_later N x1 x2 x3 x4 S = some S := by
  unfold fM_later
  rw [if_neg h.n1]
theorem s_set (hP : PS z b bn sm size t nd nu nm iu ex K0 K M S mk (0, tl, 0) rc cc a v 0 w) (hT : TCx mk tl (7 * (10 - w) + 7)) (hw : w ≤ 10) (hk : cI M (z + 3) a = 2) (hN : 4010 < N) (hkr : kr ≤ 148) (hkr4 : 4 ≤ kr) (hE : HLx N z b bn sm size t nd nu nm iu ex K0 K 0 w kc kr) (s0 : Int32) :
    EOk z b bn sm size t nd nu nm iu ex K0 K M S mk 0 tl a (v + 1) 0 w (7 * (10 - w) + 7) (8010 + 3 * (kr + 1)) (bT_X3_readStatement_7 N (gB N kc) (z + 7) (nI w) s0 K M) ((gP N (kr + 2) 3 S).bind fun o133 => (fM_takeSign N 59 o133).bind fun o139 => some o139) := by
  have ht := hP.t4
  have hroom := hP.room
  have a2 : 2 ≤ a := hP.2.2.2.2.2.2.2.2.2
  have r14 : fM_hasWord N 14 S = some (0, S) := hP.nW N (c := 14) (by decide) (by rw [hk]; decide)
  have r15 : fM_hasWord N 15 S = some (0, S) := hP.nW N (c := 15) (by decide) (by rw [hk]; decide)
  have r16 : fM_hasWord N 16 S = some (0, S) := hP.nW N (c := 16) (by decide) (by rw [hk]; decide)
  have r17 : fM_hasWord N 17 S = some (0, S) := hP.nW N (c := 17) (by decide) (by rw [hk]; decide)
  obtain ⟨hl, hn, -⟩ := hP.nam N (by omega) hk
  have cls : bT_X3_readStatement_7 N (gB N kc) (z + 7) (nI w) s0 K M = tb (fT_X3_readPlace N (z + 7) 1 K M) fun o90 => (bT_X3_readStatement_93 N (gB N kc)) (z + 7) (nI w) o90.1 o90.2.1 o90.2.2 := by
    unfold bT_X3_readStatement_7
    rw [gd_k hP.k7, hP.kn, hk, if_pos rfl]
  have ref : gP N (kr + 2) 3 S = ((fM_isPoint N S).bind fun o19 => if o19.1 = 0 then ((fM_nearName N 1 o19.2).bind fun o41 => (bM_set_55 N (gP N kr)) (nI a) o19.1 (mF o41 51) (mF o41 52) o41) else ((fM_farName N o19.2).bind fun o33 => (bM_set_55 N (gP N kr)) (nI a) o19.1 (-1) (-1) o33)) := by
    rw [uP_3]
    unfold fM_plain
    rw [r14, bs]; dsimp only
    rw [if_pos rfl, r15, bs]; dsimp only
    rw [if_pos rfl, r16, bs]; dsimp only
    rw [if_pos rfl, r17, bs]; dsimp only
    rw [if_pos rfl, uP_4]
    unfold fM_set bM_plain_145
    rw [hn, bs]; dsimp only
    rw [if_neg (by decide), hP.m7]
    generalize ((fM_isPoint N S).bind fun o19 => if o19.1 = 0 then ((fM_nearName N 1 o19.2).bind fun o41 => (bM_set_55 N (gP N kr)) (nI a) o19.1 (mF o41 51) (mF o41 52) o41) else ((fM_farName N o19.2).bind fun o33 => (bM_set_55 N (gP N kr)) (nI a) o19.1 (-1) (-1) o33)) = X
    cases X <;> rfl
  rw [cls, ref]
  -- after a fault: sign, expression, instruction, late, sign
  have deadT : ∀ (x1 x2 x3 x4 : Int32) f S1 n, DDs b bn n S f S1 → n ≤ 8010 + 3 * kr → ∃ S2, ((bM_set_55 N (gP N kr) x1 x2 x3 x4 S1).bind fun o133 => (fM_takeSign N 59 o133).bind fun o139 => some o139) = some S2 ∧ DDs b bn (8010 + 3 * (kr + 1)) S f S2 := fun x1 x2 x3 x4 f S1 n d hn => by
    obtain ⟨r, S2, g1, g2, g3⟩ := d.em hP.1.1 hP.1.2.1 (by omega) N 5 x3 x4
    refine ⟨S2, ?_, g3.le (by omega)⟩
    unfold bM_set_55 bM_set_90
    rw [d_tS d.1, bs, gd5' N (by omega) hkr4 d.1, bs, g2, bs]
    dsimp only
    rw [d_later g3.1, bs]
    by_cases q : x2 = 0
    · rw [if_pos q, bs, d_tS g3.1, bs]
    · rw [if_neg q, bs, d_tS g3.1, bs]
  -- the sign and the expression, from a state behind the place
  have mid : ∀ (M1 : Cm) (S1 : Ms) (a1 rv1 : Nat) (x3 x4 : Int32) (wo : Int64) (x2 : Int32), FR z b sm K0 M M1 S S1 → PS z b bn sm size t nd nu nm iu ex K0 K M1 S1 mk (0, tl, 0) rc cc a1 (v + 2) rv1 w → (rv1 = 0 ∨ rv1 + 3 ≤ a1) → a < a1 →
      (∃ M2 S2 rc2 cc2 a3 r2, r2 ≤ 7 * (10 - w) + 4 ∧ a1 < a3 ∧ FR z b sm K0 M M2 S S2 ∧ PS z b bn sm size t nd nu nm iu ex K0 K M2 S2 mk (1, tl, r2) rc2 cc2 a3 (v + 2) rv1 w ∧ (bT_X3_readStatement_93 N (gB N kc) (z + 7) (nI w) wo K M1 = bT_X3_readStatement_106 N (gB N kc) (z + 7) wo K M2) ∧ bM_set_55 N (gP N kr) (nI a) x2 x3 x4 S1 = ((fM_emit N 5 x3 x4 S2).bind fun o70 => if x2 = 0 then ((bM_set_90 N (gP N kr)) o70.2) else ((fM_later N (nI a) (nI a + 2) o70.1 1 o70.2).bind fun o87 => (bM_set_90 N (gP N kr)) o87))) ∨
      FB z b bn K0 M S (8010 + 3 * (kr + 1)) (bT_X3_readStatement_93 N (gB N kc) (z + 7) (nI w) wo K M1) ((bM_set_55 N (gP N kr) (nI a) x2 x3 x4 S1).bind fun o133 => (fM_takeSign N 59 o133).bind fun o139 => some o139) := fun M1 S1 a1 rv1 x3 x4 wo x2 f1 h1 hrv ha => by
    have ht1 := h1.t4
    have hr1 := h1.room
    have c93 : ∀ M', bT_X3_readStatement_93 N (gB N kc) (z + 7) (nI w) wo K M' = tb (fT_X3_take N (z + 7) 61 K M') fun o97 => (bT_X3_readStatement_100 N (gB N kc)) (z + 7) (nI w) wo o97.1 o97.2 := fun M' => by
      unfold bT_X3_readStatement_93
      rw [gd_k hP.k7]
    rw [c93]
    rcases l_sign h1.2.2.1 N (c := 61) (by decide) (by decide) with ⟨-, y1, y2, y3⟩ | ⟨f, g1, g2, g3⟩
    · have y2' : fT_X3_take N (z + 7) 61 K M1 = some (.inl (K, mv z M1 (a1 + 1))) := y2
      have y3' : fM_takeSign N 61 S1 = some (pF S1 7 (nI (a1 + 1))) := y3
      rw [y2', tb_l]
      dsimp only
      have h2 := h1.tk (a' := a1 + 1) (by omega) (by omega)
      have h2' : PS z b bn sm size t nd nu nm iu ex K0 K (mv z M1 (a1 + 1)) (pF S1 7 (nI (a1 + 1))) mk (0, tl, 0) rc cc (a1 + 1) (v + 1 + 1) rv1 w := h2.less (by omega)
      have f2 := f1.tr (FR.mv (z := z) (b := b) (sm := sm) (K0 := K0) (M := M1) (S := S1) (a1 + 1) (nI (a1 + 1)) hP.hz)
      unfold bT_X3_readStatement_100 bM_set_55
      rw [gd_k hP.k7, y3', bs]
      rcases hE _ _ mk 0 tl 0 rc cc (a1 + 1) (v + 1) rv1 h2' (by omega) (by omega) (hT.le (by omega)) (by omega) with ⟨M2, S2, rc2, cc2, a3, r2, q1, q2, q3, q4, q5, q6⟩ | q
      · have q1' : gB N kc 5 (z + 7) 0 (nI w) K (mv z M1 (a1 + 1)) = some (.inl (K, M2)) := q1
        have q2' : gP N kr 5 (pF S1 7 (nI (a1 + 1))) = some S2 := q2
        left
        exact ⟨M2, S2, rc2, cc2, a3, r2, by omega, by omega, f2.tr q5, q6, by rw [q1', tb_l], by rw [q2', bs]⟩
      · right
        have q' : FB z b bn K0 (mv z M1 (a1 + 1)) (pF S1 7 (nI (a1 + 1))) (8010 + 3 * kr) (gB N kc 5 (z + 7) 0 (nI w) K (mv z M1 (a1 + 1))) (gP N kr 5 (pF S1 7 (nI (a1 + 1)))) := q
        have qf := q'.fr f2
        rw [Option.bind_assoc]
        refine (qf.go (n' := 8010 + 3 * (kr + 1)) (fun f S3 d => ?_))
        obtain ⟨r, S4, g1, g2, g3⟩ := d.em hP.1.1 hP.1.2.1 (by omega) N 5 x3 x4
        refine ⟨S4, ?_, g3.le (by omega)⟩
        unfold bM_set_90
        rw [g2, bs]
        dsimp only
        rw [d_later g3.1, bs]
        by_cases q : x2 = 0
        · rw [if_pos q, bs, d_tS g3.1, bs]
        · rw [if_neg q, bs, d_tS g3.1, bs]
    · right
      have g2' : fT_X3_take N (z + 7) 61 K M1 = some (.inr (K, wI M1 (z + 7) 5 (nI f))) := g2
      have g3' : fM_takeSign N 61 S1 = some (pF S1 8 (nI f)) := g3
      have d := h1.dds g1
      obtain ⟨r, S4, x1, x5, x6⟩ := d.em hP.1.1 hP.1.2.1 (by omega) N 5 x3 x4
      refine (h1.fb g1 (by rw [g2', tb_r]) (S' := S4) ?_ (x6.le (n' := 8010 + 3 * (kr + 1)) (by omega))).fr f1
      unfold bM_set_55 bM_set_90
      rw [g3', bs, gd5' N (by omega) hkr4 d.1, bs, x5, bs]
      dsimp only
      rw [d_later x6.1, bs]
      by_cases q : x2 = 0
      · rw [if_pos q, bs, d_tS x6.1, bs]
      · rw [if_neg q, bs, d_tS x6.1, bs]
  rcases k_point hP.2.2.1 hl N with ⟨p1, p2, p3⟩ | ⟨p1, p3⟩
  · rw [p3, bs]
    dsimp only
    rw [if_neg (by decide)]
    have hR := hP.srv (rv' := a) (Nat.le_refl _)
    rcases far_ok hR hk p1 p2 (ts := 1) (Or.inr rfl) N (by omega) with ⟨⟨q1, q1b⟩, q2, q3, q4, q5⟩ | ⟨f, S1, f1, f2, f3, f4⟩
    · have q2' : fT_X3_readPlace N (z + 7) 1 K M = some (.inl (wd 22 (nI a) (nI iu - 1), K, mv z M (a + 3))) := q2
      rw [q2', tb_l, q3, bs]
      dsimp only
      rcases mid (mv z M (a + 3)) (pF S 7 (nI (a + 3))) (a + 3) a (-1) (-1) (wd 22 (nI a) (nI iu - 1)) 1 q4 (q5.less (by omega)) (Or.inr (Nat.le_refl _)) (by omega) with ⟨M2, S2, rc2, cc2, a3, r2, m1, m2, m3, m4, m5, m6⟩ | q
      · rw [m5, m6]
        have ht2 := m4.t4
        have hr2 := m4.room
        have m4' : PS z b bn sm size t nd nu nm iu ex K0 K M2 S2 mk (1, tl, r2) rc2 cc2 a3 (v + 1 + 1) a w := m4
        have hiu : iu ≤ 24 := by have := hP.2.1.2.2.2.2.2.2; have := hP.2.1.1.2.2.2.2.2.1; omega
        have row4 : mA S2 4 = mA S 4 := by
          have q := m3.2.2.2.2.2.2.1 4 (by decide) (by decide) (by decide)
          exact q
        have em : EMC bn S2 nd nu mk (1, tl, r2) (26, a, iu) (7 * (10 - w) + 4) := EMC.mk' (by omega) ⟨fun w => absurd w (by simp), fun w => absurd w (by simp), fun w => absurd w (by simp), fun w => absurd w (by simp), fun w => absurd w (by simp), fun w => absurd w (by simp), fun _ => ⟨by show a ≤ 4000; omega, hP.2.1.2.2.2.2.2.2, by rw [row4]; exact hP.2.2.1.w1 hl hk, fun _ => by rw [row4]; exact q1b⟩⟩ (by decide) (by show pp 26 ≤ 1; decide) (by simp) (by simp) (by omega) (hT.le (by omega))
        rw [m4.wS N, bs]
        dsimp only
        rw [if_neg (by decide), show (2 : Int32) = nI 2 from rfl, nI_add]
        have c106 : bT_X3_readStatement_106 N (gB N kc) (z + 7) (wd 22 (nI a) (nI iu - 1)) K M2 = tb (fT_X3_take N (z + 7) 59 K M2) fun o109 => (bT_X3_readStatement_112 N (gB N kc)) (z + 7) (wd 22 (nI a) (nI iu - 1)) o109.1 o109.2 := by
          unfold bT_X3_readStatement_106
          rw [gd_k hP.k7]
        rw [c106]
        rcases k_sign m4.2.2.1 N (c := 59) (by decide) (by decide) with ⟨g1, g2⟩ | ⟨g1, g2⟩
        · have hl3 : a3 < t := m4.2.2.1.lt (by rw [g1]; decide)
          obtain ⟨S3, s1, s2, s3, s4, s5, s6⟩ := m4'.lat2 (a0 := a3) (a2 := a3 + 1) (o := 26) (tok := a) (ρ := 7 * (10 - w) + 4) (rv' := 0) m4'.2.2.2.2.1 (by omega) (by omega) (by omega) (by decide) em (by omega) (by omega) (Or.inr ⟨rfl, by decide⟩) (Or.inl rfl) (by rw [if_neg (by decide)]; omega) N (by omega) (x2 := nI (a + 2)) (x4 := 1) rfl rfl
          have s1' : fM_later N (nI a) (nI (a + 2)) (nI rc2) 1 (emS S2 (10000 * bn + rc2) rc2 5 (-1) (-1)) = some S3 := s1
          rw [s1', bs]
          unfold bM_set_90
          rw [bs]
          rcases l_sign s3 N (c := 59) (by decide) (by decide) with ⟨-, y1, y2, y3⟩ | ⟨f, f1, f2, f3⟩
          · have y2' : fT_X3_take N (z + 7) 59 K M2 = some (.inl (K, mv z M2 (a3 + 1))) := y2
            have y3' : fM_takeSign N 59 S3 = some (pF S3 7 (nI (a3 + 1))) := y3
            rw [y2', tb_l, y3', bs]
            dsimp only
            unfold bT_X3_readStatement_112 bT_X3_readStatement_120 bT_X3_readStatement_270
            have h3 := m4.tk (a' := a3 + 1) (by omega) (by omega)
            rw [gd_k hP.k7, nn_s h3.r71, gd_k hP.ks, em5 h3.2.2.2.1 h3.room.2.2.2.2.2 N, ta_l]
            exact Or.inl ⟨_, _, rc2 + 1, cc2 + 1, a3 + 1, 7 * (10 - w) + 4 + 1, rfl, rfl, by omega, by omega, m3.tr s5, s6.less (by omega)⟩
          · exfalso
            have f2' : fT_X3_take N (z + 7) 59 K M2 = some (.inr (K, wI M2 (z + 7) 5 (nI f))) := f2
            have this' : fT_X3_take N (z + 7) 59 K M2 = some (.inl (K, mv z M2 (a3 + 1))) := t_yes m4.2.2.1 N g1 hl3
            rw [this'] at f2'
            cases f2'
        · obtain ⟨S3, s1, s2, s3, s4, s5, s6⟩ := m4'.lat0 (a0 := a3) (a2 := a3 + 1) (o := 26) (tok := a) (ρ := 7 * (10 - w) + 4) (rv' := 0) m4'.2.2.2.2.1 (by omega) (by omega) (by decide) em (by omega) (by omega) (Or.inr ⟨rfl, by decide⟩) (Or.inl rfl) (by rw [if_neg (by decide)]; omega) N (by omega) (x2 := nI (a + 2)) (x4 := 1) rfl rfl
          have s1' : fM_later N (nI a) (nI (a + 2)) (nI rc2) 1 (emS S2 (10000 * bn + rc2) rc2 5 (-1) (-1)) = some S3 := s1
          rw [s1', bs]
          unfold bM_set_90
          rw [bs]
          rcases l_sign s3 N (c := 59) (by decide) (by decide) with ⟨y0, -⟩ | ⟨f', f1', f2', f3'⟩
          · exact absurd y0 g1
          · have f2'' : fT_X3_take N (z + 7) 59 K M2 = some (.inr (K, wI M2 (z + 7) 5 (nI f'))) := f2'
            have f3'' : fM_takeSign N 59 S3 = some (pF S3 8 (nI f')) := f3'
            rw [f2'', tb_r, f3'', bs]
            refine Or.inr ((m4.fb f1' rfl rfl ?_).fr m3)
            exact ⟨⟨f1', rfl⟩, s2.2.2.2.2.2.2.2.2.2.tr (AgO.pF o8 _), s5, s6, rc2 + 1, s4, by omega, fun k k1 k2 => s2.2.2.2.2.2.2.1 k (by omega) (by omega) (by omega)⟩
      · exact Or.inr q
    · right
      obtain ⟨S2, g1, g2⟩ := deadT (nI a) 1 (-1) (-1) f S1 rc f4 (by omega)
      refine hP.fbm f1 (jj := a + 2) (by rw [f2, tb_r]) (S' := S2) ?_ g2
      rw [f3, bs, g1]
  · rw [p3, bs]
    dsimp only
    rw [if_pos rfl]
    rcases near_ok hP hk p1 (ts := 1) (Or.inr rfl) N (by omega) with ⟨y, s, k, M3, S3, y1, y2, y3, y4, y5, y6, y7, y8, y9, y10⟩ | ⟨f, S1, f1, f2, f3, f4⟩
    · have k0 := y4 rfl
      subst k0
      have y5' : fT_X3_readPlace N (z + 7) 1 K M = some (.inl (cw bn S (5, y, s), K, M3)) := y5
      rw [y5', tb_l, y6, bs, y7, y8]
      dsimp only
      rcases mid M3 S3 (a + 1) 0 (nI y) (nI s) (cw bn S (5, y, s)) 0 y9 (y10.less (by omega)) (Or.inl rfl) (by omega) with ⟨M2, S2, rc2, cc2, a3, r2, m1, m2, m3, m4, m5, m6⟩ | q
      · rw [m5, m6]
        have ht2 := m4.t4
        have hr2 := m4.room
        have m4' : PS z b bn sm size t nd nu nm iu ex K0 K M2 S2 mk (1, tl, r2) rc2 cc2 a3 (v + 1 + 1) 0 w := m4
        have sl2 : SLs S2 bn y s 0 := by
          unfold SLs at y2 ⊢
          rw [m3.2.2.2.2.2.2.1 25 (by decide) (by decide) (by decide), m3.2.2.2.2.2.2.1 27 (by decide) (by decide) (by decide)]
          exact y2
        have cwe : cw bn S2 (5, y, s) = cw bn S (5, y, s) := cwd_ag (m3.2.2.2.2.2.2.1 28 (by decide) (by decide) (by decide)) (m3.2.2.2.2.2.2.1 29 (by decide) (by decide) (by decide)) (fun _ _ => rfl)
        rw [m4.wS N, bs]
        dsimp only
        rw [if_pos rfl]
        unfold bM_set_90
        rw [bs]
        have c106 : bT_X3_readStatement_106 N (gB N kc) (z + 7) (cw bn S (5, y, s)) K M2 = tb (fT_X3_take N (z + 7) 59 K M2) fun o109 => (bT_X3_readStatement_112 N (gB N kc)) (z + 7) (cw bn S (5, y, s)) o109.1 o109.2 := by
          unfold bT_X3_readStatement_106
          rw [gd_k hP.k7]
        rw [c106]
        rcases semi (N := N) m4' (x := (5, y, s)) (ρ := 7 * (10 - w) + 4) (by simp) (by simp) (by simp) (EMC.mk' (by omega) ⟨fun w => absurd w (by simp), fun w => absurd w (by simp), fun _ => ⟨y1, sl2⟩, fun w => absurd w (by simp), fun w => absurd w (by simp), fun w => absurd w (by simp), fun w => absurd w (by simp)⟩ (by decide) (by show pp 5 ≤ 1; decide) (by simp) (by simp) (by omega) (hT.le (by omega))) (by simp) (by omega) (n := 8010 + 3 * (kr + 1)) (by omega) with ⟨g1, g2, g3, g4, g5, g6⟩ | ⟨f, S4, f1, f2, f3, f4⟩
        · have g4' : fM_takeSign N 59 (emS S2 (10000 * bn + rc2) rc2 5 (nI y) (nI s)) = _ := g4
          rw [g2, tb_l, g4', bs]
          dsimp only
          unfold bT_X3_readStatement_112 bT_X3_readStatement_120 bT_X3_readStatement_270
          have h3 := m4.tk (a' := a3 + 1) (by omega) (by omega)
          rw [gd_k hP.k7, nn_s h3.r71, gd_k hP.ks, ← cwe, g3, ta_l]
          exact Or.inl ⟨_, _, rc2 + 1, cc2 + 1, a3 + 1, 7 * (10 - w) + 4 + 1, rfl, rfl, by omega, by omega, m3.tr g5, g6.less (by omega)⟩
        · have f3' : fM_takeSign N 59 (emS S2 (10000 * bn + rc2) rc2 5 (nI y) (nI s)) = some S4 := f3
          rw [f2, tb_r, f3', bs]
          exact Or.inr ((m4.fb f1 rfl rfl f4).fr m3)
      · exact Or.inr q
    · right
      obtain ⟨S2, g1, g2⟩ := deadT (nI a) 0 (mF S1 51) (mF S1 52) f S1 rc f4 (by omega)
      refine hP.fb f1 (by rw [f2, tb_r]) (S' := S2) ?_ g2
      rw [f3, bs, g1]
end ASSIGN
