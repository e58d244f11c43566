/-! if and try -/
section CHOICE
variable {N z b bn sm size t nd nu nm iu : Nat} {ex : Nat → Nat → Prop} {K0 K : Ka} {M M' : Cm} {S S' : Ms} {mk : List Mk} {j : Jt} {rc cc a v rv dp w h kc kr lv : Nat} {tl : List Nat}
theorem s_if (hP : PS z b bn sm size t nd nu nm iu ex K0 K M S mk (0, tl, 0) rc cc a v 0 w) (hT : TCx mk tl (7 * (10 - w) + 7)) (hlen : tl.length ≤ w) (hw : w ≤ 10) (hk : cI M (z + 3) a = 146) (hN : 4010 < N) (hkr : kr ≤ 160) (hkr1 : 1 ≤ kr) (hE : HLx N z b bn sm size t nd nu nm iu ex K0 K 0 w kc kr) (hB : HBx N z b bn sm size t nd nu nm iu ex K0 K w kc kr) (s0 : Int32) :
    EOk z b bn sm size t nd nu nm iu ex K0 K M S mk 0 tl a (v + 1) 0 w (7 * (10 - w) + 7) (8010 + 3 * (kr + 1)) (bT_X3_readStatement_7 N (gB N (kc + 1)) (z + 7) (nI w) s0 K M) ((gP N (kr + 1) 2 (pF S 7 (nI (a + 1)))).bind fun o72 => some o72) := by
  have ht := hP.t4
  have hroom := hP.room
  have hl : a < t := hP.2.2.1.lt (by rw [hk]; decide)
  have h1 := hP.tk (a' := a + 1) (by omega) (by omega)
  have h1' : PS z b bn sm size t nd nu nm iu ex K0 K (mv z M (a + 1)) (pF S 7 (nI (a + 1))) mk (0, tl, 0) rc cc (a + 1) (v + 1 + 1) 0 w := h1.less (by omega)
  have cls : bT_X3_readStatement_7 N (gB N (kc + 1)) (z + 7) (nI w) s0 K M = tb (tb (gB N kc 5 (z + 7) 0 (nI w) K (mv z M (a + 1))) fun o13 => (bT_X3_readIf_16 N (gB N kc)) (z + 7) (nI w) o13.1 o13.2) fun o242 => (bT_X3_readStatement_245 N (gB N (kc + 1))) (z + 7) o242.1 o242.2 := by
    unfold bT_X3_readStatement_7
    rw [gd_k hP.k7, hP.kn, hk, if_neg (by decide), if_neg (by decide), if_neg (by decide), if_neg (by decide), if_neg (by decide), if_pos rfl, uB_2]
    unfold fT_X3_readIf
    rw [gd_k hP.k7, hP.mvC N hl, bs]
  rw [cls, uP_2]
  unfold fM_choice
  refine EOk.fr (a := a + 1) ?_ (FR.mv (a + 1) (nI (a + 1)) hP.hz) (by omega)
  rcases cond_ok h1' hT hw hN hkr hE with ⟨M3, S3, M4, S4, rc3, cc3, a3, q1, q2, q3, q4, q4b, q5, q6, q7⟩ | q
  · rw [q1, q2, tb_l, bs, q4, bs]
    dsimp only
    unfold bT_X3_readIf_16 bT_X3_readIf_24
    rw [gd_k hP.k7, q3, ta_l]
    dsimp only
    rw [gd_k hP.k7]
    rcases (hB M4 S4 _ tl _ _ _ a3 v q7 (by omega) (fun _ => ⟨by omega, (hT.cons _).le (by omega)⟩)).1 with ⟨M5, S5, rc5, cc5, a5, r5, p1, p2, p3, p4, p5, p6⟩ | q
    · have hr5 : r5 ≤ 7 * (10 - w) + 5 := by omega
      have ht5 := p6.t4
      have hroom5 := p6.room
      rw [p1, p2, tb_l, bs]
      dsimp only
      unfold bT_X3_readIf_30
      rw [gd_k hP.k7, p6.kn]
      by_cases k19 : cI M5 (z + 3) a5 = nI 147
      · obtain ⟨hl5, r19⟩ := p6.yW N (c := 19) (by decide) k19
        have r19' : fM_hasWord N 19 S5 = some (1, pF S5 7 (nI (a5 + 1))) := r19
        have h6 := p6.tk (a' := a5 + 1) (by omega) (by omega)
        have h6' : PS z b bn sm size t nd nu nm iu ex K0 K (mv z M5 (a5 + 1)) (pF S5 7 (nI (a5 + 1))) ((rc3, cc3, (28, 0, 0), (1, tl, 7 * (10 - w) + 4)) :: mk) (0, tl, r5) rc5 cc5 (a5 + 1) (v + 3 + 1) 0 w := h6.less (by omega)
        obtain ⟨h7, f7⟩ := h6'.em (x := (29, 0, 0)) (ρ := 7 * (10 - w) + 5) (by decide) (by decide) (by decide) (EMC.mk' hr5 (VO.triv (by decide)) (Nat.zero_le _) (by decide) (by decide) (by decide) (by omega) ((hT.cons _).le (by omega)))
        obtain ⟨y1, y2, y3, y4⟩ := PS.aim (l1 := [(rc5, cc5, (29, 0, 0), (0, tl, 7 * (10 - w) + 5))]) h7 (Or.inl rfl) rfl rfl N
        rw [if_pos (show cI M5 (z + 3) a5 = 147 from k19), p6.mvC N hl5, bs, h6'.wC N, ta_l, r19', bs]
        dsimp only
        rw [if_neg (by decide), h6'.wS N, bs]
        dsimp only
        unfold bT_X3_readIf_58
        have y1' : fC_X5_aimHere N K sm (nI cc3) (emC (mv z M5 (a5 + 1)) sm cc5 (wd 16 0 0)) = some (aimC (emC (mv z M5 (a5 + 1)) sm cc5 (wd 16 0 0)) sm (cc5 + 1) cc3) := y1
        have y2' : fM_here N (nI rc3) (emS (pF S5 7 (nI (a5 + 1))) (10000 * bn + rc5) rc5 10 0 0) = some (pA (emS (pF S5 7 (nI (a5 + 1))) (10000 * bn + rc5) rc5 10 0 0) 40 (10000 * bn + rc3) (nI (10000 * bn + (rc5 + 1)))) := y2
        have r71' : cR (emC (mv z M5 (a5 + 1)) sm cc5 (wd 16 0 0)) (z + 7) 1 = some sm := h7.r71
        rw [gd_k hP.k7, nn_s r71', gd_k hP.ks, y1', bs, y2', bs]
        have y4' : PS z b bn sm size t nd nu nm iu ex K0 K (aimC (emC (mv z M5 (a5 + 1)) sm cc5 (wd 16 0 0)) sm (cc5 + 1) cc3) (pA (emS (pF S5 7 (nI (a5 + 1))) (10000 * bn + rc5) rc5 10 0 0) 40 (10000 * bn + rc3) (nI (10000 * bn + (rc5 + 1)))) ((rc5, cc5, (29, 0, 0), (0, tl, 7 * (10 - w) + 5)) :: mk) (0, tl, max 0 (7 * (10 - w) + 4 + 1)) (rc5 + 1) (cc5 + 1) (a5 + 1) (v + 2 + 1) 0 w := y4
        rcases (hB _ _ _ tl _ _ _ (a5 + 1) (v + 2) y4' (by omega) (fun _ => ⟨by omega, (hT.cons _).le (by omega)⟩)).1 with ⟨M8, S8, rc8, cc8, a8, r8, x1, x2, x3, x4, x5, x6⟩ | q
        · obtain ⟨z1, z2, z3, z4⟩ := PS.aim (l1 := []) x6 (Or.inr (Or.inl rfl)) rfl rfl N
          rw [x1, x2, tb_l, bs]
          dsimp only
          unfold bT_X3_readIf_72 bT_X3_readIf_91 bT_X3_readStatement_245 bT_X3_readStatement_270 bM_choice_57
          rw [gd_k hP.k7, nn_s x6.r71, gd_k hP.ks, z1, bs, z2, bs, tb_l, bs]
          refine Or.inl ⟨_, _, rc8, cc8, a8, _, rfl, rfl, by omega, ?_, (((((q6.tr p5).tr (FR.mv _ _ hP.hz)).tr f7).tr y3).tr x5).tr z3, z4.less (by omega)⟩
          show max r8 (7 * (10 - w) + 5 + 1) ≤ _
          omega
        · right
          have q8 := (q.go (β := Ka × Cm) (k := fun o69 => bT_X3_readIf_72 N (gB N kc) (z + 7) (nI cc5) o69.1 o69.2) (r := fun o41 => (fM_here N (nI rc5) o41).bind fun o46 => (bM_choice_57 N (gP N kr)) o46) (n' := 8010 + 3 * (kr + 1)) (fun f S9 d => by
            obtain ⟨S7, g4, g5⟩ := d.here hP.1.1 hP.1.2.1 (show rc5 < 10000 by omega) N
            exact ⟨S7, by rw [g4, bs]; rfl, g5.le (by omega)⟩)).fr ((((q6.tr p5).tr (FR.mv _ _ hP.hz)).tr f7).tr y3)
          obtain ⟨f, K', M', S', w1, w2, w3, w4, w5, w6, w7⟩ := q8
          exact ⟨f, K', M', S', w1, by rw [w2, tb_r], w3, w4, w5, by rw [w6, bs], w7⟩
      · have r19 : fM_hasWord N 19 S5 = some (0, S5) := p6.nW N (c := 19) (by decide) k19
        obtain ⟨y1, y2, y3, y4⟩ := PS.aim (l1 := []) p6 (Or.inl rfl) rfl rfl N
        rw [if_neg (show ¬ cI M5 (z + 3) a5 = 147 from k19), nn_s p6.r71, gd_k hP.ks, y1, bs, r19, bs]
        dsimp only
        unfold bT_X3_readIf_91 bT_X3_readStatement_245 bT_X3_readStatement_270 bM_choice_57
        rw [if_pos rfl, y2, bs, tb_l, bs]
        refine Or.inl ⟨_, _, rc5, cc5, a5, _, rfl, rfl, by omega, ?_, (q6.tr p5).tr y3, y4.less (by omega)⟩
        show max r5 (7 * (10 - w) + 4 + 1) ≤ _
        omega
    · right
      have q8 := (q.go (β := Ka × Cm) (k := fun o27 => bT_X3_readIf_30 N (gB N kc) (z + 7) (nI w) (nI cc3) o27.1 o27.2) (r := fun o14 => (fM_hasWord N 19 o14).bind fun o20 => if o20.1 = 0 then ((fM_here N (nI rc3) o20.2).bind fun o54 => (bM_choice_57 N (gP N kr)) o54) else ((fM_emit N 10 0 0 o20.2).bind fun o31 => (fM_here N (nI rc3) o31.2).bind fun o37 => (gP N kr 0 o37).bind fun o41 => (fM_here N o31.1 o41).bind fun o46 => (bM_choice_57 N (gP N kr)) o46)) (n' := 8010 + 3 * (kr + 1)) (fun f S9 d => by
        obtain ⟨S7, g4, g5⟩ := d.here hP.1.1 hP.1.2.1 q4b N
        refine ⟨S7, ?_, g5.le (by omega)⟩
        rw [d_hW d.1, bs]; dsimp only
        rw [if_pos rfl, g4, bs]; rfl)).fr q6
      obtain ⟨f, K', M', S', w1, w2, w3, w4, w5, w6, w7⟩ := q8
      exact ⟨f, K', M', S', w1, by rw [w2, tb_r], w3, w4, w5, by rw [w6, bs], w7⟩
  · right
    have q8 := (q.go (β := Ka × Cm) (k := fun o13 => bT_X3_readIf_16 N (gB N kc) (z + 7) (nI w) o13.1 o13.2) (r := fun o1 => (fM_emit N 11 0 0 o1).bind fun o9 => (gP N kr 0 o9.2).bind fun o14 => (fM_hasWord N 19 o14).bind fun o20 => if o20.1 = 0 then ((fM_here N o9.1 o20.2).bind fun o54 => (bM_choice_57 N (gP N kr)) o54) else ((fM_emit N 10 0 0 o20.2).bind fun o31 => (fM_here N o9.1 o31.2).bind fun o37 => (gP N kr 0 o37).bind fun o41 => (fM_here N o31.1 o41).bind fun o46 => (bM_choice_57 N (gP N kr)) o46)) (n' := 8010 + 3 * (kr + 1)) (fun f S9 d => by
      obtain ⟨r, S6, g1, g2, g3⟩ := d.em hP.1.1 hP.1.2.1 (by omega) N 11 0 0
      obtain ⟨S7, g4, g5⟩ := g3.here hP.1.1 hP.1.2.1 (show r < 10000 by omega) N
      refine ⟨S7, ?_, g5.le (by omega)⟩
      rw [g2, bs]; dsimp only
      rw [gd0' N (by omega) hkr1 g3.1, bs, d_hW g3.1, bs]; dsimp only
      rw [if_pos rfl, g4, bs]; rfl))
    obtain ⟨f, K', M', S', w1, w2, w3, w4, w5, w6, w7⟩ := q8
    exact ⟨f, K', M', S', w1, by rw [w2, tb_r], w3, w4, w5, by rw [w6, bs], w7⟩
theorem s_try (hP : PS z b bn sm size t nd nu nm iu ex K0 K M S mk (0, tl, 0) rc cc a v 0 w) (hT : TCx mk tl (7 * (10 - w) + 7)) (hlen : tl.length ≤ w) (hw : w ≤ 10) (hk : cI M (z + 3) a = 149) (hN : 4010 < N) (hkr : kr ≤ 160) (hkr1 : 1 ≤ kr) (hB : HBx N z b bn sm size t nd nu nm iu ex K0 K w kc kr) (s0 : Int32) :
    EOk z b bn sm size t nd nu nm iu ex K0 K M S mk 0 tl a (v + 1) 0 w (7 * (10 - w) + 7) (8010 + 3 * (kr + 1)) (bT_X3_readStatement_7 N (gB N (kc + 1)) (z + 7) (nI w) s0 K M) ((fM_emit N 12 0 0 (pF S 7 (nI (a + 1)))).bind fun o92 => (gP N kr 0 o92.2).bind fun o97 => (fM_emit N 13 0 0 o97).bind fun o105 => (fM_here N o92.1 o105.2).bind fun o111 => (fM_takeWord N 8 o111).bind fun o117 => (gP N kr 0 o117).bind fun o121 => (fM_here N o105.1 o121).bind fun o126 => some o126) := by
  have ht := hP.t4
  have hroom := hP.room
  have hl : a < t := hP.2.2.1.lt (by rw [hk]; decide)
  have h1 := hP.tk (a' := a + 1) (by omega) (by omega)
  have h1' : PS z b bn sm size t nd nu nm iu ex K0 K (mv z M (a + 1)) (pF S 7 (nI (a + 1))) mk (0, tl, 0) rc cc (a + 1) (v + 1 + 1) 0 w := h1.less (by omega)
  obtain ⟨h2, f2⟩ := h1'.em (x := (30, 0, 0)) (ρ := 7 * (10 - w) + 4) (by decide) (by decide) (by decide) ⟨⟨Nat.zero_le _, by decide⟩, VO.triv (by decide), ⟨Nat.zero_le _, Nat.zero_le _⟩, fun q => absurd q (by decide), fun _ => rfl, fun q => absurd q (by decide), fun _ => by omega, fun q => absurd q (by decide), by rw [if_neg (by decide)]; exact hT.le (by omega)⟩
  have h2' : PS z b bn sm size t nd nu nm iu ex K0 K (emC (mv z M (a + 1)) sm cc (wd 18 0 0)) (emS (pF S 7 (nI (a + 1))) (10000 * bn + rc) rc 12 0 0) ((rc, cc, (30, 0, 0), (0, tl, 7 * (10 - w) + 4)) :: mk) (0, rc :: tl, 7 * (10 - w) + 4 + 1) (rc + 1) (cc + 1) (a + 1) (v + 1) 0 w := h2
  have f2' : FR z b sm K0 (mv z M (a + 1)) (emC (mv z M (a + 1)) sm cc (wd 18 0 0)) (pF S 7 (nI (a + 1))) (emS (pF S 7 (nI (a + 1))) (10000 * bn + rc) rc 12 0 0) := f2
  have cls : bT_X3_readStatement_7 N (gB N (kc + 1)) (z + 7) (nI w) s0 K M = tb (tb (gB N kc 0 (z + 7) (nI w) 0 K (emC (mv z M (a + 1)) sm cc (wd 18 0 0))) fun o21 => (bT_X3_readTry_24 N (gB N kc)) (z + 7) (nI w) (nI cc) o21.1 o21.2) fun o259 => (bT_X3_readStatement_262 N (gB N (kc + 1))) (z + 7) o259.1 o259.2 := by
    unfold bT_X3_readStatement_7
    rw [gd_k hP.k7, hP.kn, hk, if_neg (by decide), if_neg (by decide), if_neg (by decide), if_neg (by decide), if_neg (by decide), if_neg (by decide), if_neg (by decide), if_pos rfl, uB_4]
    unfold fT_X3_readTry bT_X3_readTry_18
    rw [gd_k hP.k7, hP.mvC N hl, bs, h1'.wC N, ta_l]
    dsimp only
    rw [gd_k hP.k7]
  rw [cls, h1'.wS N, bs]
  dsimp only
  refine EOk.fr (a := a + 1) ?_ ((FR.mv (a + 1) (nI (a + 1)) hP.hz).tr f2') (by omega)
  have hb := hB _ _ _ (rc :: tl) _ _ _ (a + 1) v h2' (by omega) (fun q => ⟨by show tl.length + 1 ≤ w + 1; omega, by show tl.length + 1 ≤ 10; omega, Or.inr ⟨rc, cc, tl, _, List.mem_cons_self .., rfl, by omega⟩⟩)
  have hb' : (w < 10 ∧ ∃ M' S' rc' cc' a' r', gB N kc 0 (z + 7) (nI w) 0 K (emC (mv z M (a + 1)) sm cc (wd 18 0 0)) = some (.inl (K, M')) ∧ gP N kr 0 (emS (pF S 7 (nI (a + 1))) (10000 * bn + rc) rc 12 0 0) = some S' ∧ a + 1 + 1 < a' ∧ r' ≤ max (7 * (10 - w) + 4 + 1) (7 * (10 - w)) ∧ FR z b sm K0 (emC (mv z M (a + 1)) sm cc (wd 18 0 0)) M' (emS (pF S 7 (nI (a + 1))) (10000 * bn + rc) rc 12 0 0) S' ∧ PS z b bn sm size t nd nu nm iu ex K0 K M' S' ((rc, cc, (30, 0, 0), (0, tl, 7 * (10 - w) + 4)) :: mk) (0, rc :: tl, r') rc' cc' a' (v + 3) 0 w) ∨ FB z b bn K0 (emC (mv z M (a + 1)) sm cc (wd 18 0 0)) (emS (pF S 7 (nI (a + 1))) (10000 * bn + rc) rc 12 0 0) (8010 + 3 * kr) (gB N kc 0 (z + 7) (nI w) 0 K (emC (mv z M (a + 1)) sm cc (wd 18 0 0))) (gP N kr 0 (emS (pF S 7 (nI (a + 1))) (10000 * bn + rc) rc 12 0 0)) := by
    by_cases e : w = 10
    · exact Or.inr (hb.2 e)
    · rcases hb.1 with q | q
      · exact Or.inl ⟨by omega, q⟩
      · exact Or.inr q
  rcases hb' with ⟨hw10, M3, S3, rc3, cc3, a3, r3, p1, p2, p3, p4, p5, p6⟩ | q
  · have hr3 : r3 ≤ 7 * (10 - w) + 5 := by omega
    have ht3 := p6.t4
    have hroom3 := p6.room
    rw [p1, p2, tb_l, bs]
    dsimp only
    have p6' : PS z b bn sm size t nd nu nm iu ex K0 K M3 S3 ((rc, cc, (30, 0, 0), (0, tl, 7 * (10 - w) + 4)) :: mk) (0, rc :: tl, r3) rc3 cc3 a3 (v + 1 + 2) 0 w := p6
    obtain ⟨e1, e2, e3, e4⟩ := p6'.em2 (ρ := 7 * (10 - w) + 5) hr3 (Nat.zero_le _) (by omega) (by simp) (by show tl.length + 1 ≤ 10; omega) N
    unfold bT_X3_readTry_24 bT_X3_readTry_32 bT_X3_readTry_41
    rw [gd_k hP.k7, e1, ta_l]
    dsimp only
    rw [gd_k hP.k7, e2, ta_l]
    dsimp only
    rw [gd_k hP.k7, p6.wS N, bs]
    dsimp only
    generalize hM4 : emC (emC M3 sm cc3 (wd 19 0 0)) sm (cc3 + 1) (wd 16 0 0) = M4 at *
    generalize hS4 : emS S3 (10000 * bn + rc3) rc3 13 0 0 = S4 at *
    have e4' : PS z b bn sm size t nd nu nm iu ex K0 K M4 S4 ((rc3, cc3, (31, 0, 0), (0, rc :: tl, 7 * (10 - w) + 5)) :: (rc, cc, (30, 0, 0), (0, tl, 7 * (10 - w) + 4)) :: mk) (0, tl, 0) (rc3 + 1) (cc3 + 2) a3 (v + 1) 0 w := e4
    have hr4 := e4'.room
    have he : fM_here N (nI rc) S4 = some (pA S4 40 (10000 * bn + rc) (nI (10000 * bn + (rc3 + 1)))) := here_ok e4'.2.1.2.2.2.1 e4'.2.2.2.2.2.2.1 (by omega) N
    rw [he, bs]
    have pt4 : PT z K M4 (pA S4 40 (10000 * bn + rc) (nI (10000 * bn + (rc3 + 1)))) size t a3 := e4'.2.2.1.sA (by decide) (by decide) _ _
    have gA : AgO b S4 (pA S4 40 (10000 * bn + rc) (nI (10000 * bn + (rc3 + 1)))) := AgO.pA (ob_n hP.1.1 hP.1.2.1 (w := 10000) rfl (by decide) (by omega) (by omega)) _
    rcases l_word pt4 N (w := 8) (by decide) with ⟨-, g1, g2, g3⟩ | ⟨f, f1, f2, f3⟩
    · have g2' : fT_X3_take N (z + 7) 136 K M4 = some (.inl (K, mv z M4 (a3 + 1))) := g2
      have g3' : fM_takeWord N 8 (pA S4 40 (10000 * bn + rc) (nI (10000 * bn + (rc3 + 1)))) = some (pA (pF S4 7 (nI (a3 + 1))) 40 (10000 * bn + rc) (nI (10000 * bn + (rc3 + 1)))) := g3
      have h5 := e4'.tk (a' := a3 + 1) (by omega) (by omega)
      obtain ⟨y1, y2, y3, y4⟩ := PS.aim (l1 := [(rc3, cc3, (31, 0, 0), (0, rc :: tl, 7 * (10 - w) + 5))]) h5 (Or.inr (Or.inr rfl)) rfl rfl N
      rw [g2', tb_l, g3', bs]
      dsimp only
      unfold bT_X3_readTry_49
      rw [gd_k hP.k7, nn_s h5.r71, gd_k hP.ks, y1, bs]
      have y4' : PS z b bn sm size t nd nu nm iu ex K0 K (aimC (mv z M4 (a3 + 1)) sm (cc3 + 2) cc) (pA (pF S4 7 (nI (a3 + 1))) 40 (10000 * bn + rc) (nI (10000 * bn + (rc3 + 1)))) ((rc3, cc3, (31, 0, 0), (0, rc :: tl, 7 * (10 - w) + 5)) :: mk) (0, tl, max 0 (7 * (10 - w) + 4 + 1)) (rc3 + 1) (cc3 + 2) (a3 + 1) (v + 2 + 1) 0 w := y4.less (by omega)
      rcases (hB _ _ _ tl _ _ _ (a3 + 1) (v + 2) y4' (by omega) (fun _ => ⟨by omega, (hT.cons _).le (by omega)⟩)).1 with ⟨M8, S8, rc8, cc8, a8, r8, x1, x2, x3, x4, x5, x6⟩ | q
      · obtain ⟨z1, z2, z3, z4⟩ := PS.aimT (l1 := []) x6 rfl rfl N
        rw [x1, x2, tb_l, bs]
        dsimp only
        unfold bT_X3_readTry_62 bT_X3_readStatement_262 bT_X3_readStatement_270
        rw [gd_k hP.k7, nn_s x6.r71, gd_k hP.ks, z1, bs, z2, bs, tb_l]
        refine Or.inl ⟨_, _, rc8, cc8, a8, _, rfl, rfl, by omega, ?_, ((((p5.tr e3).tr (FR.mv _ _ hP.hz)).tr y3).tr x5).tr z3, z4.less (by omega)⟩
        show max r8 (7 * (10 - w) + 5 + 1) ≤ _
        omega
      · right
        have q8 := (q.go (β := Ka × Cm) (k := fun o59 => bT_X3_readTry_62 N (gB N kc) (z + 7) (nI (cc3 + 1)) o59.1 o59.2) (r := fun o121 => (fM_here N (nI rc3) o121).bind fun o126 => some o126) (n' := 8010 + 3 * (kr + 1)) (fun f S9 d => by
          obtain ⟨S7, g4, g5⟩ := d.here hP.1.1 hP.1.2.1 (show rc3 < 10000 by omega) N
          exact ⟨S7, by rw [g4, bs], g5.le (by omega)⟩)).fr (((p5.tr e3).tr (FR.mv _ _ hP.hz)).tr y3)
        obtain ⟨f, K', M', S', w1, w2, w3⟩ := q8
        exact ⟨f, K', M', S', w1, by rw [w2, tb_r], w3⟩
    · right
      have f2' : fT_X3_take N (z + 7) 136 K M4 = some (.inr (K, wI M4 (z + 7) 5 (nI f))) := f2
      have f3' : fM_takeWord N 8 (pA S4 40 (10000 * bn + rc) (nI (10000 * bn + (rc3 + 1)))) = some (pF (pA S4 40 (10000 * bn + rc) (nI (10000 * bn + (rc3 + 1)))) 8 (nI f)) := f3
      have d : DDs b bn (rc3 + 1) S4 f (pF (pA S4 40 (10000 * bn + rc) (nI (10000 * bn + (rc3 + 1)))) 8 (nI f)) := ⟨⟨f1, rfl⟩, gA.tr (AgO.pF o8 _), e4'.2.1.1.2.1, e4'.2.1.2.2.2.1, rc3 + 1, e4'.2.2.2.2.2.2.1, Nat.le_refl _, fun k k1 k2 => mA_Ane S4 _ _ (by omega)⟩
      obtain ⟨S7, g4, g5⟩ := d.here hP.1.1 hP.1.2.1 (show rc3 < 10000 by omega) N
      refine (e4'.fb f1 (by rw [f2', tb_r, tb_r]) (S' := S7) ?_ (g5.le (by omega))).fr (p5.tr e3)
      rw [f3', bs, gd0' N (by omega) hkr1 d.1, bs, g4, bs]
  · right
    have q8 := (q.go (β := Ka × Cm) (k := fun o21 => bT_X3_readTry_24 N (gB N kc) (z + 7) (nI w) (nI cc) o21.1 o21.2) (r := fun o97 => (fM_emit N 13 0 0 o97).bind fun o105 => (fM_here N (nI rc) o105.2).bind fun o111 => (fM_takeWord N 8 o111).bind fun o117 => (gP N kr 0 o117).bind fun o121 => (fM_here N o105.1 o121).bind fun o126 => some o126) (n' := 8010 + 3 * (kr + 1)) (fun f S9 d => by
      obtain ⟨r, S6, g1, g2, g3⟩ := d.em hP.1.1 hP.1.2.1 (by omega) N 13 0 0
      obtain ⟨S7, g4, g5⟩ := g3.here hP.1.1 hP.1.2.1 (show rc < 10000 by omega) N
      obtain ⟨S8, g6, g7⟩ := g5.here hP.1.1 hP.1.2.1 (show r < 10000 by omega) N
      refine ⟨S8, ?_, g7.le (by omega)⟩
      rw [g2, bs]; dsimp only
      rw [g4, bs, d_tW g5.1, bs, gd0' N (by omega) hkr1 g5.1, bs, g6, bs]))
    obtain ⟨f, K', M', S', w1, w2, w3⟩ := q8
    exact ⟨f, K', M', S', w1, by rw [w2, tb_r], w3⟩
end CHOICE
