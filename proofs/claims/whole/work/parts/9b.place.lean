/-! a place named alone, read by both -/
theorem nI_d8 {w s : Nat} (hs : s < 8) (hw : w < 1000000) : nI (8 * w + s) / 8 = nI w := by
  rw [show (8 : Int32) = nI 8 from rfl, nI_div (by decide) (by omega) (by decide)]
  congr 1
  omega
theorem nI_m8 {w s : Nat} (hs : s < 8) (hw : w < 1000000) : nI (8 * w + s) - nI (8 * w + s) / 8 * 8 = nI s := by
  rw [nI_d8 hs hw, show (8 : Int32) = nI 8 from rfl, nI_mul, nI_sub (by omega) (by omega)]
  congr 1
  omega
section PLACE
variable {z b bn sm size t nd nu nm iu : Nat} {ex : Nat → Nat → Prop} {K0 K : Ka} {M M' : Cm} {S S' : Ms} {mk : List Mk} {j : Jt} {rc cc a v rv dp : Nat}
/-- a slot: setting (1) or static (0) -/
theorem slot_k (hp : PU K M S bn sm nu) {w s : Nat} {x : Int64} (hw : w < nu) (hs : hasI S bn x w s) : s < 8 ∧ (SLs S bn w s 1 ∨ SLs S bn w s 0) := by
  obtain ⟨p1, p2, fl, p3⟩ := hp
  obtain ⟨⟨tu, a1, ⟨ni, ns, b1, b2, b3, b4, b5, b6, b7, b8, b9, b10⟩, a3⟩, a4⟩ := p3 w hw
  obtain ⟨⟨ni', w1, w2, w3⟩, w4⟩ := hs
  have e : ni = ni' := (nI_eq (by omega) (by omega)).mp (b4.symm.trans w2)
  subst e
  refine ⟨by omega, ?_⟩
  rcases (b9 s w3).2 with q | q
  · exact Or.inl ⟨⟨ni, b1, b4, w3⟩, q.1⟩
  · exact Or.inr ⟨⟨ni, b1, b4, w3⟩, q.1⟩
theorem is_ok (ks : kd K sm = 6) (hp : PU K M S bn sm nu) (hnu : nu ≤ 24) {w s : Nat} {k : Int32} (hw : w < nu) (hs : SLs S bn w s k) (hk : k = 0 ∨ k = 1) (N : Nat) : fC_X5_isStatic N K sm (nI (8 * w + s)) M = some (1 - k, M) := by
  obtain ⟨p1, p2, fl, p3⟩ := hp
  obtain ⟨⟨tu, a1, ⟨ni, ns, b1, b2, b3, b4, b5, b6, b7, b8, b9, b10⟩, a3⟩, a4⟩ := p3 w hw
  obtain ⟨⟨ni', w1, w2, w3⟩, w4⟩ := hs
  have e : ni = ni' := (nI_eq (by omega) (by omega)).mp (b4.symm.trans w2)
  subst e
  have r5 := a1.2.2.2.1 5 24 8 (by decide)
  have e5 : tu + 5 - 1 = tu + 4 := by omega
  rw [e5] at r5
  unfold fC_X5_isStatic
  rw [gd_k ks, gd_t (by decide), nn_s p1.1, gd_k p1.2.1, nI_d8 (by omega) (by omega), ck_n (show w < le K (sm + 6) by omega) (by omega), nI_clamp (show w < 2 ^ 31 by omega), nn_s a1.1, gd_k a1.2.2.1, gd_t (by decide), nn_s r5.1, gd_k r5.2.1, ← nI_d8 (show s < 8 by omega) (show w < 1000000 by omega), nI_m8 (by omega) (by omega), r5.2.2, ck_n (show s < 8 by omega) (by decide), nI_clamp (by omega)]
  have w4' : mA S 27 (8 * (24 * bn + w) + s) = k := w4
  rcases (b9 s w3).2 with q | q
  · rw [q.2.1]
    rw [w4'] at q
    rw [q.1]
    rfl
  · rw [q.2.1]
    rw [w4'] at q
    rw [q.1]
    rfl
theorem pw_ok (ks : kd K sm = 6) (hp : PU K M S bn sm nu) (hnu : nu ≤ 24) {w s : Nat} {k ts : Int32} (hw : w < nu) (hs : SLs S bn w s k) (hk : k = 0 ∨ k = 1) (ht : ts = 0 ∨ ts = 1 ∧ k = 0) (N : Nat) : fC_X5_placeWord N K sm (nI (8 * w + s)) ts M = some (cw bn S (if ts = 1 then 5 else if k = 1 then 3 else 4, w, s), M) := by
  have hi := is_ok ks hp hnu hw hs hk N
  obtain ⟨p1, p2, fl, p3⟩ := hp
  obtain ⟨⟨tu, a1, ⟨ni, ns, b1, b2, b3, b4, b5, b6, b7, b8, b9, b10⟩, a3⟩, a4⟩ := p3 w hw
  obtain ⟨⟨ni', w1, w2, w3⟩, w4⟩ := hs
  have e : ni = ni' := (nI_eq (by omega) (by omega)).mp (b4.symm.trans w2)
  subst e
  have r4 := a1.2.2.2.1 4 22 8 (by decide)
  have e5 : tu + 4 - 1 = tu + 3 := by omega
  rw [e5] at r4
  have w4' : mA S 27 (8 * (24 * bn + w) + s) = k := w4
  have pw : ∀ o : Int32, bC_X5_placeWord_21 N K sm (nI (8 * w + s)) o M = some (wd o (nI w) (cI M (tu + 3) s), M) := fun o => by
    unfold bC_X5_placeWord_21
    rw [gd_t (by decide), gd_k ks, nn_s p1.1, gd_k p1.2.1, nI_d8 (by omega) (by omega), ck_n (show w < le K (sm + 6) by omega) (by omega), nI_clamp (show w < 2 ^ 31 by omega), nn_s a1.1, gd_k a1.2.2.1, gd_t (by decide), nn_s r4.1, gd_k r4.2.1]
    have e := nI_m8 (show s < 8 by omega) (show w < 1000000 by omega)
    rw [nI_d8 (by omega) (by omega)] at e
    rw [e, r4.2.2, ck_n (show s < 8 by omega) (by decide), nI_clamp (by omega)]
    rfl
  unfold fC_X5_placeWord
  rcases (b9 s w3).2 with q | q
  · have k1 : k = 1 := w4'.symm.trans q.1
    rcases ht with t0 | ⟨t1, t2⟩
    · subst t0
      subst k1
      rw [if_pos rfl, gd_k ks, hi, bs]
      dsimp only
      rw [if_pos (by decide), pw, q.2.2]
      rfl
    · rw [t2] at k1; exact absurd k1 (by decide)
  · have k0 : k = 0 := w4'.symm.trans q.1
    subst k0
    rcases ht with t0 | ⟨t1, t2⟩
    · subst t0
      rw [if_pos rfl, gd_k ks, hi, bs]
      dsimp only
      rw [if_neg (by decide), pw, q.2.2.1]
      rfl
    · subst t1
      rw [if_neg (by decide), pw, q.2.2.1]
      rfl
/-- a unit leans on what it names -/
theorem PS.lean (h : PS z b bn sm size t nd nu nm iu ex K0 K M S mk j rc cc a v rv dp) {u w : Nat} (hu : iu = u + 1) (hw : w < nu) (N : Nat) : fC_X5_leanOn N K sm (nI u) (nI w) M = some (wI M (sm + 7) u (cI M (sm + 7) u ||| ((1 : Int32) <<< (nI w &&& 31)))) ∧ FR z b sm K0 M (wI M (sm + 7) u (cI M (sm + 7) u ||| ((1 : Int32) <<< (nI w &&& 31)))) S (pA S 34 (24 * (24 * bn + u) + w) 1) ∧
    PS z b bn sm size t nd nu nm iu ex K0 K (wI M (sm + 7) u (cI M (sm + 7) u ||| ((1 : Int32) <<< (nI w &&& 31)))) (pA S 34 (24 * (24 * bn + u) + w) 1) mk j rc cc a v rv dp := by
  have hz := h.hz
  have ks := h.ks
  obtain ⟨e, s, p, c, dd, l, q1, q2, q3, q4⟩ := h
  obtain ⟨n1, n2, n3, n4, n5, n6, n7, n8, n9, n10, -⟩ := s.1
  have hun : u < nu := by have := s.2.2.2.2.2.2; omega
  obtain ⟨p1, p2, -⟩ := s.2.2.1
  have nb : ¬ OB b 34 (24 * (24 * bn + u) + w) := ob_n e.1 e.2.1 (w := 576) rfl (by decide) (by omega) (by omega)
  have hf : FR z b sm K0 M (wI M (sm + 7) u (cI M (sm + 7) u ||| ((1 : Int32) <<< (nI w &&& 31)))) S (pA S 34 (24 * (24 * bn + u) + w) 1) := by
    have h4 := e.2.2.2.1
    refine ⟨fun a _ _ h3 => cI_wI_ne _ _ _ h3, fun _ _ => rfl, rfl, fun s _ _ => by rw [cI_wI_ne _ _ _ (by omega)], fun s _ => by rw [cI_wI_ne _ _ _ (by omega)], fun _ _ _ _ _ _ _ => rfl, fun k h1 _ _ => mA_Ane _ _ _ h1, rfl, ⟨fun a h1 _ => ⟨cI_wI_ne _ _ _ (by omega), rfl⟩, fun _ _ _ _ => rfl⟩, AgO.pA nb _⟩
  refine ⟨?_, hf, e, s.fr hf hz, ?_, ?_, dd.q rfl (fun k hk => mA_Ane _ _ _ (by omega)) rfl (Nat.le_refl _), fun u' v' hu' hv' => ?_, q1, q2, q3, q4⟩
  · unfold fC_X5_leanOn bC_X5_leanOn_24
    rw [if_neg (nI_pos (by omega)), gd_k ks, n10, if_neg (nI_ge hun (by omega)), nn_s p2.1, gd_k p2.2.1, ck_n (show u < le K (sm + 7) by omega) (by omega), ck_n (show u < le K (sm + 7) by omega) (by omega), nI_clamp (by omega)]
  · obtain ⟨a1, a2, a3, a4, a5, a6, a7, a8⟩ := p
    refine ⟨a1, ?_, a3, a4, a5, by rw [cI_wI_ne _ _ _ (by omega)]; exact a6, by rw [cI_wI_ne _ _ _ (by omega), cI_wI_ne _ _ _ (by omega)]; exact a7, a8⟩
    unfold TKS TK1 at a2 ⊢
    rw [cI_wI_ne _ _ _ (by omega), cI_wI_ne _ _ _ (by omega), cI_wI_ne _ _ _ (by omega), mA_Ane _ _ _ (by decide), mA_Ane _ _ _ (by decide)]
    exact a2
  · obtain ⟨a1, a2, a3, a4, a5, a6, a7, a8, a9⟩ := c
    exact ⟨a1, a2, a3, a4, a5, a6, a7, by rw [cI_wI_ne _ _ _ (by omega)]; exact a8, a9⟩
  · obtain ⟨l1, l2⟩ := l u' v' hu' hv'
    rw [cI_w, mA_A]
    by_cases q : u' = u
    · subst q
      rw [if_pos ⟨rfl, rfl⟩, bit_set (by omega) (by omega)]
      by_cases q2 : v' = w
      · subst q2
        rw [if_pos ⟨rfl, rfl⟩]
        exact ⟨⟨fun _ => Or.inl rfl, fun _ => by simp⟩, Or.inr rfl, fun y => by omega⟩
      · rw [if_neg (fun y => q2 (by omega))]
        exact ⟨by simp only [q2, decide_false, Bool.or_false]; exact l1, l2⟩
    · rw [if_neg (fun y => q y.2), if_neg (fun y => q (by omega))]
      exact ⟨l1, l2⟩
/-- a search changes nothing that counts -/
theorem FR.r53 (r : Nat → Int32) : FR z b sm K0 M M S (rw53 S r) :=
  ⟨fun _ _ _ _ => rfl, fun _ _ => rfl, rfl, fun _ _ _ => rfl, fun _ _ => rfl, fun _ _ _ _ _ _ _ => rfl, fun k _ _ h => rw53_A _ _ h, rfl, AgA.rf _ _ _, ⟨fun _ _ => rfl, fun k i h => by rw [rw53_A _ _ h.2.2], fun _ _ _ => rfl⟩⟩
theorem PS.r53 (h : PS z b bn sm size t nd nu nm iu ex K0 K M S mk j rc cc a v rv dp) (r : Nat → Int32) : PS z b bn sm size t nd nu nm iu ex K0 K M (rw53 S r) mk j rc cc a v rv dp := by
  have hz := h.hz
  obtain ⟨e, s, p, c, dd, l, q1, q2, q3, q4⟩ := h
  refine ⟨e, s.fr (FR.r53 (b := b) (K0 := K0) r) hz, ?_, c, dd.q rfl (fun k hk => rw53_A _ _ (by omega)) rfl (Nat.le_refl _), l.q rfl (rw53_A _ _ (by decide)), q1, q2, q3, q4⟩
  obtain ⟨a1, a2, a3, a4, a5, a6, a7, a8⟩ := p
  refine ⟨a1, ?_, a3, a4, a5, a6, a7, a8⟩
  unfold TKS TK1 at a2 ⊢
  rw [rw53_A _ _ (by decide), rw53_A _ _ (by decide)]
  exact a2
theorem PS.own (h : PS z b bn sm size t nd nu nm iu ex K0 K M S mk j rc cc a v rv dp) (r : Nat → Int32) (w s : Nat) : PS z b bn sm size t nd nu nm iu ex K0 K M (pF (pF (rw53 S r) 51 (nI w)) 52 (nI s)) mk j rc cc a v rv dp ∧ FR z b sm K0 M M S (pF (pF (rw53 S r) 51 (nI w)) 52 (nI s)) :=
  ⟨((h.r53 r).sl (Or.inl rfl) _).sl (Or.inr rfl) _, ((FR.r53 r).tr (FR.pF (Or.inr (Or.inl rfl)) _)).tr (FR.pF (Or.inr (Or.inr rfl)) _)⟩
theorem sub1 (u : Nat) (h : u < 2 ^ 30) : nI (u + 1) - 1 = nI u := nI_sub (a := u + 1) (b := 1) (by omega) (by omega)
/-- the search from where the text stands -/
theorem PS.look (h : PS z b bn sm size t nd nu nm iu ex K0 K M S mk j rc cc a v rv dp) (N : Nat) (hN : 30 < N) (x : Int64) : (∃ u w s r', iu = u + 1 ∧ w < nu ∧ hasI S bn x w s ∧ fC_X5_find N K sm (nI iu - 1) x M = some (nI (8 * w + s), M) ∧ ¬ nI iu - 1 < 0 ∧ fM_looks N (nI iu - 1) x S = some (1, pF (pF (rw53 S r') 51 (nI w)) 52 (nI s))) ∨
    (fC_X5_find N K sm (nI iu - 1) x M = some (-1, M) ∧ (nI iu - 1 < 0 ∨ ¬ nI iu - 1 < 0 ∧ ∃ r', fM_looks N (nI iu - 1) x S = some (0, rw53 S r'))) := by
  obtain ⟨e, s, -⟩ := h
  have hiu := s.2.2.2.2.2.2
  have n24 := s.1.2.2.2.2.2.1
  rcases Nat.eq_zero_or_pos iu with q | q
  · subst q
    right
    refine ⟨?_, Or.inl (by decide)⟩
    unfold fC_X5_find
    rw [if_pos (by decide)]
    rfl
  · obtain ⟨u, rfl⟩ : ∃ u, iu = u + 1 := ⟨iu - 1, by omega⟩
    rw [sub1 u (by omega)]
    rcases fnd_ok s.1 s.2.2.1 N hN x (u := u) (by omega) with ⟨w, q, r', w1, w2, w3, w4⟩ | ⟨w1, r', w2⟩
    · exact Or.inl ⟨u, w, q, r', rfl, w1, w2, w3, nI_pos (by omega), w4⟩
    · exact Or.inr ⟨w1, Or.inr ⟨nI_pos (by omega), r', w2⟩⟩
end PLACE
