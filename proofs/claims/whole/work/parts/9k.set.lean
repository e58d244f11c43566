/-! touch, and setting a place -/
section SETS
variable {N z b bn sm size t nd nu nm iu : Nat} {ex : Nat → Nat → Prop} {K0 K : Ka} {M M' : Cm} {S S' : Ms} {mk : List Mk} {j : Jt} {rc cc a v rv dp w h kc kr lv : Nat} {tl : List Nat}
/-- a late instruction: what the reference keeps of it -/
theorem PS.lat0 (hP : PS z b bn sm size t nd nu nm iu ex K0 K M S mk j rc cc a (v + 1) rv dp) {a0 a2 o tok ρ rv' : Nat} (hc : CD bn sm nd nu M S mk j rc cc a0 rv) (h0 : a0 ≤ a2) (h04 : a0 ≤ 4000) (ho : 25 ≤ o ∧ o ≤ 27) (he : EMC bn S nd nu mk j (o, tok, iu) ρ) (h2 : 2 ≤ tok) (ht4 : tok ≤ 4000) (hrel : a0 ≤ tok ∨ rv = tok ∧ o ≠ 27) (hrv : rv' = 0 ∨ rv' = rv ∧ (rv = 0 ∨ rv + 3 ≤ tok)) (hx : tok + (if o = 27 then 1 else 2) < a2) (N : Nat) (hN : 2001 < N) {x2 x4 : Int32} (hx2 : x2 = if o = 27 then -1 else nI (tok + 2)) (hx4 : x4 = if o = 26 then 1 else 0) :
    ∃ S2, fM_later N (nI tok) x2 (nI rc) x4 (emS S (10000 * bn + rc) rc (rfd (10000 * bn) (o, tok, iu)).1 (rfd (10000 * bn) (o, tok, iu)).2.1 (rfd (10000 * bn) (o, tok, iu)).2.2) = some S2 ∧ FR z b sm K0 M M S S2 ∧ PT z K M S2 size t a ∧ mF S2 38 = nI (rc + 1) ∧ mF S2 12 = nI bn ∧ mF S2 42 = nI (10000 * bn) := by
  have hr := hP.room
  have ht := hP.t4
  have hz := hP.hz
  obtain ⟨e, s, p, c, dd, l, q1, q2, q3, q4⟩ := id hP
  have hiu : iu ≤ 24 := by have := s.2.2.2.2.2.2; have := s.1.2.2.2.2.2.1; omega
  have hx' : lend (tok, rc, o, iu) < a2 := by
    show (if o = 27 then tok + 1 else tok + 2) < a2
    by_cases w : o = 27
    · rw [if_pos w] at hx ⊢; exact hx
    · rw [if_neg w] at hx ⊢; exact hx
  obtain ⟨S2, s1, s2, s3, s4, s5, s6, s7⟩ := hc.late (a' := a2) (rv' := rv') ho (by omega) (by omega) he hP.f0 s.2.2.2.2.1 hiu h2 ht4 (by omega) hrel hrv h0 hx' N hN hx2 hx4
  have nb : ∀ k, bw k = 10000 → ¬ OB b k (10000 * bn + rc) := fun k hk => ob_n e.1 e.2.1 hk (by decide) (by omega) (by omega)
  have ag : AgO b S S2 := ⟨fun k hk => s2 k (by unfold OF at hk; omega) (by unfold OF at hk; omega), fun k i hk => by
    by_cases w2 : 39 ≤ k ∧ k ≤ 41
    · exact s6 k i w2 (fun q => by subst q; exact nb k (by rcases (show k = 39 ∨ k = 40 ∨ k = 41 by omega) with q | q | q <;> subst q <;> rfl) hk)
    · rw [s5 k w2 hk.2.1], fun k i hk => by rw [s4]⟩
  have f0 : FR z b sm K0 M M S S2 := ⟨fun _ _ _ _ => rfl, fun _ _ => rfl, rfl, fun _ _ _ => rfl, fun _ _ => rfl, fun k w1 w2 w3 w4 w5 w6 => s2 k w2 w3, fun k w1 w2 w3 => s5 k (by omega) (by omega), s4, AgA.rf _ _ _, ag⟩
  have pt : PT z K M S2 size t a := by
    obtain ⟨h1, h2, h3, h4, h5, h6, h7, h8⟩ := p
    refine ⟨h1, ?_, h3, by rw [s2 7 (by decide) (by decide)]; exact h4, by rw [s2 8 (by decide) (by decide)]; exact h5, h6, h7, by rw [s4]; exact h8⟩
    unfold TKS TK1 at h2 ⊢
    rw [s5 4 (by omega) (by omega), s5 5 (by omega) (by omega), s4]
    exact h2
  exact ⟨S2, s1, f0, pt, s3, by rw [s2 12 (by decide) (by decide)]; exact s.1.2.1, by rw [s2 42 (by decide) (by decide)]; exact s.2.2.2.1⟩
/-- a late instruction: the reference keeps it before the sign behind it is read -/
theorem PS.lat2 (hP : PS z b bn sm size t nd nu nm iu ex K0 K M S mk j rc cc a (v + 1) rv dp) {a0 a2 o tok ρ rv' : Nat} (hc : CD bn sm nd nu M S mk j rc cc a0 rv) (h0 : a0 ≤ a2) (h1 : a ≤ a2) (h2t : a2 ≤ t) (ho : 25 ≤ o ∧ o ≤ 27) (he : EMC bn S nd nu mk j (o, tok, iu) ρ) (h2 : 2 ≤ tok) (ht4 : tok ≤ 4000) (hrel : a0 ≤ tok ∨ rv = tok ∧ o ≠ 27) (hrv : rv' = 0 ∨ rv' = rv ∧ (rv = 0 ∨ rv + 3 ≤ tok)) (hx : tok + (if o = 27 then 1 else 2) < a2) (N : Nat) (hN : 2001 < N) {x2 x4 : Int32} (hx2 : x2 = if o = 27 then -1 else nI (tok + 2)) (hx4 : x4 = if o = 26 then 1 else 0) :
    ∃ S2, fM_later N (nI tok) x2 (nI rc) x4 (emS S (10000 * bn + rc) rc (rfd (10000 * bn) (o, tok, iu)).1 (rfd (10000 * bn) (o, tok, iu)).2.1 (rfd (10000 * bn) (o, tok, iu)).2.2) = some S2 ∧ FR z b sm K0 M M S S2 ∧ PT z K M S2 size t a ∧ mF S2 38 = nI (rc + 1) ∧ FR z b sm K0 M (emC (mv z M a2) sm cc (cw bn S (o, tok, iu))) S (pF S2 7 (nI a2)) ∧
    PS z b bn sm size t nd nu nm iu ex K0 K (emC (mv z M a2) sm cc (cw bn S (o, tok, iu))) (pF S2 7 (nI a2)) mk (nxt rc o (j.1, j.2.1, ρ)) (rc + 1) (cc + 1) a2 (v + 2 * (a2 - a)) rv' dp := by
  have hr := hP.room
  have ht := hP.t4
  have hz := hP.hz
  obtain ⟨e, s, p, c, dd, l, q1, q2, q3, q4⟩ := id hP
  have hiu : iu ≤ 24 := by have := s.2.2.2.2.2.2; have := s.1.2.2.2.2.2.1; omega
  have hx' : lend (tok, rc, o, iu) < a2 := by
    show (if o = 27 then tok + 1 else tok + 2) < a2
    by_cases w : o = 27
    · rw [if_pos w] at hx ⊢; exact hx
    · rw [if_neg w] at hx ⊢; exact hx
  obtain ⟨S2, s1, s2, s3, s4, s5, s6, s7⟩ := hc.late (a' := a2) (rv' := rv') ho (by omega) (by omega) he hP.f0 s.2.2.2.2.1 hiu h2 ht4 (by omega) hrel hrv h0 hx' N hN hx2 hx4
  have nb : ∀ k, bw k = 10000 → ¬ OB b k (10000 * bn + rc) := fun k hk => ob_n e.1 e.2.1 hk (by decide) (by omega) (by omega)
  have ag : AgO b S S2 := ⟨fun k hk => s2 k (by unfold OF at hk; omega) (by unfold OF at hk; omega), fun k i hk => by
    by_cases w2 : 39 ≤ k ∧ k ≤ 41
    · exact s6 k i w2 (fun q => by subst q; exact nb k (by rcases (show k = 39 ∨ k = 40 ∨ k = 41 by omega) with q | q | q <;> subst q <;> rfl) hk)
    · rw [s5 k w2 hk.2.1], fun k i hk => by rw [s4]⟩
  have f0 : FR z b sm K0 M M S S2 := ⟨fun _ _ _ _ => rfl, fun _ _ => rfl, rfl, fun _ _ _ => rfl, fun _ _ => rfl, fun k w1 w2 w3 w4 w5 w6 => s2 k w2 w3, fun k w1 w2 w3 => s5 k (by omega) (by omega), s4, AgA.rf _ _ _, ag⟩
  have pt : PT z K M S2 size t a := by
    obtain ⟨h1, h2, h3, h4, h5, h6, h7, h8⟩ := p
    refine ⟨h1, ?_, h3, by rw [s2 7 (by decide) (by decide)]; exact h4, by rw [s2 8 (by decide) (by decide)]; exact h5, h6, h7, by rw [s4]; exact h8⟩
    unfold TKS TK1 at h2 ⊢
    rw [s5 4 (by omega) (by omega), s5 5 (by omega) (by omega), s4]
    exact h2
  have f1 : FR z b sm K0 M (mv z M a2) S2 (pF S2 7 (nI a2)) := FR.mv _ _ hz
  have f2 : FR z b sm K0 (mv z M a2) (emC (mv z M a2) sm cc (cw bn S (o, tok, iu))) (pF S2 7 (nI a2)) (pF S2 7 (nI a2)) := by
    have g := FR.em (M := mv z M a2) (S := S) (cc := cc) (rc := rc) e (by omega) (cw bn S (o, tok, iu)) 0 0 0
    exact ⟨g.1, g.2.1, g.2.2.1, g.2.2.2.1, g.2.2.2.2.1, fun _ _ _ _ _ _ _ => rfl, fun _ _ _ _ => rfl, rfl, g.2.2.2.2.2.2.2.2.1, AgO.rf _ _⟩
  have hf := (f0.tr f1).tr f2
  refine ⟨S2, s1, f0, pt, s3, hf, e, s.fr hf hz, ?_, (c.mv a2).em (by have := e.2.2.2.2.2.2; omega) _, (s7.drop (by show o < 28; omega)).q rfl (fun _ _ => rfl) rfl (Nat.le_refl _), l.q (by rw [emC_I (by omega), mv_I _ (by omega)]) (s5 34 (by omega) (by omega)), s3, by show mF S2 50 = nI dp; rw [s2 50 (by decide) (by decide)]; exact q2, by omega, by omega⟩
  have pe := (pt.mv h2t).em (sm := sm) hz 0 0 cc (cw bn S (o, tok, iu)) 0 0 0
  obtain ⟨h1, h2, h3, h4, h5, h6, h7, h8⟩ := pe
  refine ⟨h1, ?_, h3, rfl, (pt.mv h2t).2.2.2.2.1, h6, h7, h8⟩
  unfold TKS TK1 at h2 ⊢
  rw [emS_o (by omega), emS_o (by omega)] at h2
  exact h2
theorem nx_27 (rc : Nat) (tl : List Nat) (r : Nat) : nxt rc 27 (0, tl, r) = (0, tl, r + 1) := rfl
theorem nx_26 (rc : Nat) (tl : List Nat) (r : Nat) : nxt rc 26 (1, tl, r) = (0, tl, r + 1) := rfl
/-- touch -/
theorem s_touch (hP : PS z b bn sm size t nd nu nm iu ex K0 K M S mk (0, tl, 0) rc cc a v 0 w) (hT : TCx mk tl (7 * (10 - w) + 7)) (hw : w ≤ 10) (hk : cI M (z + 3) a = 142) (hN : 4010 < N) (hkr : kr ≤ 150) (s0 : Int32) :
    EOk z b bn sm size t nd nu nm iu ex K0 K M S mk 0 tl a (v + 1) 0 w (7 * (10 - w) + 7) (8010 + 3 * (kr + 1)) (bT_X3_readStatement_7 N (gB N kc) (z + 7) (nI w) s0 K M) ((gP N (kr + 1) 3 S).bind fun o133 => (fM_takeSign N 59 o133).bind fun o139 => some o139) := by
  have ht := hP.t4
  have hroom := hP.room
  have a2 : 2 ≤ a := hP.2.2.2.2.2.2.2.2.2
  obtain ⟨hl, r14⟩ := hP.yW N (c := 14) (by decide) hk
  have r14' : fM_hasWord N 14 S = some (1, pF S 7 (nI (a + 1))) := r14
  have h1 := hP.tk (a' := a + 1) (by omega) (by omega)
  have h1' : PS z b bn sm size t nd nu nm iu ex K0 K (mv z M (a + 1)) (pF S 7 (nI (a + 1))) mk (0, tl, 0) rc cc (a + 1) (v + 1 + 1) 0 w := h1.less (by omega)
  have cls : bT_X3_readStatement_7 N (gB N kc) (z + 7) (nI w) s0 K M = tb (tb (fT_X3_take N (z + 7) 2 K (mv z M (a + 1))) fun o17 => (bT_X3_readTouch_20 N) (z + 7) (nI (a + 1)) o17.1 o17.2) fun o125 => (bT_X3_readStatement_128 N (gB N kc)) (z + 7) o125.1 o125.2 := by
    unfold bT_X3_readStatement_7 fT_X3_readTouch
    rw [gd_k hP.k7, hP.kn, hk, if_neg (by decide), if_pos rfl, gd_k hP.k7, hP.mvC N hl, bs, h1.at]
  have ref : gP N (kr + 1) 3 S = ((fM_isName N (pF S 7 (nI (a + 1)))).bind fun o17 => if o17.1 = 0 then ((fM_wrong N 1 o17.2).bind fun o25 => (bM_plain_28 N (gP N kr)) o25) else ((bM_plain_28 N (gP N kr)) o17.2)) := by
    rw [uP_3]
    unfold fM_plain
    rw [r14', bs]; dsimp only
    rw [if_neg (by decide), if_pos h1.f0]
  rw [cls, ref]
  refine EOk.fr (a := a + 1) ?_ (FR.mv (a + 1) (nI (a + 1)) hP.hz) (by omega)
  rcases k_name h1.2.2.1 N (by omega) with ⟨n1, n2, -⟩ | ⟨n1, n2⟩
  · have hl2 : a + 1 < t := h1.2.2.1.lt (by rw [n1]; decide)
    rw [t_yes h1.2.2.1 N n1 hl2, tb_l, n2, bs, mv_mv]
    dsimp only
    rw [if_neg (by decide)]
    unfold bM_plain_28 bM_plain_145 bT_X3_readTouch_20
    rw [h1.wS N, bs]
    dsimp only
    have hiu : iu ≤ 24 := by have := hP.2.1.2.2.2.2.2.2; have := hP.2.1.1.2.2.2.2.2.1; omega
    have em : EMC bn (pF S 7 (nI (a + 1))) nd nu mk (0, tl, 0) (27, a + 1, iu) (7 * (10 - w) + 4) := EMC.mk' (Nat.zero_le _) ⟨fun w => absurd w (by simp), fun w => absurd w (by simp), fun w => absurd w (by simp), fun w => absurd w (by simp), fun w => absurd w (by simp), fun w => absurd w (by simp), fun _ => ⟨by show a + 1 ≤ 4000; omega, hP.2.1.2.2.2.2.2.2, h1.2.2.1.w1 hl2 n1, fun y => absurd rfl y⟩⟩ (by decide) (by show pp 27 ≤ 0; decide) (by simp) (by simp) (by omega) (hT.le (by omega))
    have h2 := h1.tk (a' := a + 2) (by omega) (by omega)
    rw [mv_mv, pF_pF] at h2
    rw [gd_k hP.k7, h1.m7]
    -- the sign
    rcases k_sign h2.2.2.1 N (c := 59) (by decide) (by decide) with ⟨g1, g2⟩ | ⟨g1, g2⟩
    · have hl3 : a + 2 < t := h2.2.2.1.lt (by rw [g1]; decide)
      obtain ⟨S2, s1, s2, s3, s4, s5, s6⟩ := h1'.lat2 (a0 := a + 1) (a2 := a + 3) (o := 27) (tok := a + 1) (ρ := 7 * (10 - w) + 4) (rv' := 0) h1'.2.2.2.2.1 (by omega) (by omega) (by omega) (by decide) em (by omega) (by omega) (Or.inl (Nat.le_refl _)) (Or.inl rfl) (by rw [if_pos rfl]; omega) N (by omega) (x2 := -1) (x4 := 0) rfl rfl
      have s1' : fM_later N (nI (a + 1)) (-1) (nI rc) 0 (emS (pF S 7 (nI (a + 1))) (10000 * bn + rc) rc 6 0 0) = some S2 := s1
      rw [s1', bs]
      have m7 : mF S2 7 = nI (a + 1) := s3.2.2.2.1
      rw [m7, nI_1, bs]
      have s3b := s3.mv (j := a + 2) (by omega)
      rw [mv_mv] at s3b
      rcases l_sign s3b N (c := 59) (by decide) (by decide) with ⟨-, y1, y2, y3⟩ | ⟨f, f1, f2, f3⟩
      · have y2' : fT_X3_take N (z + 7) 59 K (mv z M (a + 2)) = some (.inl (K, mv z (mv z M (a + 2)) (a + 2 + 1))) := y2
        have y3' : fM_takeSign N 59 (pF S2 7 (nI (a + 2))) = some (pF (pF S2 7 (nI (a + 2))) 7 (nI (a + 2 + 1))) := y3
        rw [show a + 1 + 1 = a + 2 from rfl, y2', tb_l, y3', bs, mv_mv, pF_pF]
        dsimp only
        unfold bT_X3_readTouch_26 bT_X3_readTouch_37 bT_X3_readStatement_128 bT_X3_readStatement_270
        have h3 := hP.tk (a' := a + 3) (by omega) (by omega)
        have i4 : cI (mv z M (a + 3)) (z + 7) 4 = nI iu - 1 := h3.2.1.2.2.2.2.2.1
        rw [gd_k hP.k7, show a + 2 + 1 = a + 3 from rfl, i4, h3.wC N, ta_l, tb_l]
        rw [mv_mv] at s5 s6
        exact Or.inl ⟨_, _, rc + 1, cc + 1, a + 3, 7 * (10 - w) + 4 + 1, rfl, rfl, by omega, by omega, s5, s6.less (by omega)⟩
      · exfalso
        have f2' : fT_X3_take N (z + 7) 59 K (mv z M (a + 2)) = some (.inr (K, wI (mv z M (a + 2)) (z + 7) 5 (nI f))) := f2
        have := t_yes h2.2.2.1 N g1 hl3
        have this' : fT_X3_take N (z + 7) 59 K (mv z M (a + 2)) = some (.inl (K, mv z (mv z M (a + 2)) (a + 2 + 1))) := this
        rw [this'] at f2'
        cases f2'
    · obtain ⟨f, f1, f2, f3⟩ := rf_nI h2.2.2.1 N (w := 1) (by omega) (by omega)
      have tn := t_no h2.2.2.1 N (k := 59) g1 f2
      obtain ⟨S2, s1, s2, s3, s4, s5, s6⟩ := h1'.lat0 (a0 := a + 1) (a2 := a + 3) (o := 27) (tok := a + 1) (ρ := 7 * (10 - w) + 4) (rv' := 0) h1'.2.2.2.2.1 (by omega) (by omega) (by decide) em (by omega) (by omega) (Or.inl (Nat.le_refl _)) (Or.inl rfl) (by rw [if_pos rfl]; omega) N (by omega) (x2 := -1) (x4 := 0) rfl rfl
      have s1' : fM_later N (nI (a + 1)) (-1) (nI rc) 0 (emS (pF S 7 (nI (a + 1))) (10000 * bn + rc) rc 6 0 0) = some S2 := s1
      rw [s1', bs]
      have m7 : mF S2 7 = nI (a + 1) := s3.2.2.2.1
      rw [m7, nI_1, bs]
      have s3b := s3.mv (j := a + 2) (by omega)
      rw [mv_mv] at s3b
      rcases l_sign s3b N (c := 59) (by decide) (by decide) with ⟨y0, -⟩ | ⟨f', f1', f2', f3'⟩
      · exact absurd y0 g1
      · have f2'' : fT_X3_take N (z + 7) 59 K (mv z M (a + 1 + 1)) = some (.inr (K, wI (mv z M (a + 1 + 1)) (z + 7) 5 (nI f'))) := f2'
        have f3'' : fM_takeSign N 59 (pF S2 7 (nI (a + 1 + 1))) = some (pF (pF S2 7 (nI (a + 1 + 1))) 8 (nI f')) := f3'
        rw [f2'', tb_r, tb_r, f3'', bs]
        have e2 : mv z (mv z M (a + 1)) (a + 2) = mv z M (a + 2) := mv_mv _ _ _ _
        refine Or.inr (h1.fbm f1' (jj := a + 2) (by rw [e2]) rfl ?_)
        exact ⟨⟨f1', rfl⟩, (s2.2.2.2.2.2.2.2.2.2.tr (AgO.pF o7 _)).tr (AgO.pF o8 _), s5, s6, rc + 1, s4, by omega, fun k k1 k2 => s2.2.2.2.2.2.2.1 k (by omega) (by omega) (by omega)⟩
  · obtain ⟨f, f1, f2, f3⟩ := rf_nI h1.2.2.1 N (w := 1) (by omega) (by omega)
    have f3' : fM_wrong N 1 (pF S 7 (nI (a + 1))) = some (pF (pF S 7 (nI (a + 1))) 8 (nI f)) := f3
    right
    obtain ⟨r, S2, g1, g2, g3⟩ := (h1.dds f1).em hP.1.1 hP.1.2.1 (by omega) N 6 0 0
    refine h1.fb f1 (by rw [t_no h1.2.2.1 N n1 f2, tb_r, tb_r]) (S' := pF S2 7 (mF S2 7 + 1)) ?_ ((g3.p7 _).le (by omega))
    rw [n2, bs]
    dsimp only
    rw [if_pos rfl, f3', bs]
    unfold bM_plain_28 bM_plain_145
    rw [g2, bs]
    dsimp only
    have l : ∀ x1 x2 x3 x4, fM_later N x1 x2 x3 x4 S2 = some S2 := fun x1 x2 x3 x4 => by
      unfold fM_later
      rw [if_neg g3.1.n1]
    rw [l, bs, bs, d_tS (g3.p7 _).1, bs]
end SETS
