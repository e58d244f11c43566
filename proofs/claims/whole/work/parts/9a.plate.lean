section PLATE
variable {z b bn sm size t nd nu nm iu : Nat} {ex : Nat → Nat → Prop} {K0 K : Ka} {M M' : Cm} {S S' : Ms} {mk : List Mk} {j : Jt} {rc cc a v rv dp : Nat}
theorem lend_gt (e : Et) : e.1 + 1 ≤ lend e ∧ lend e ≤ e.1 + 2 := by unfold lend; split <;> omega
theorem LT.srt {nl : Nat} {e : Nat → Et} (h : ∀ k, k + 1 < nl → lend (e k) < (e (k + 1)).1) : ∀ k, k < nl → ∀ i, i < k → lend (e i) < (e k).1 := by
  intro k
  induction k with
  | zero => intro _ i hi; omega
  | succ k ih =>
    intro hk i hi
    have h1 := h k hk
    have := (lend_gt (e k)).1
    by_cases q : i = k
    · subst q; exact h1
    · have := ih (by omega) i (by omega); omega
theorem LT.low {nl : Nat} {e : Nat → Et} (h : ∀ k, k + 1 < nl → lend (e k) < (e (k + 1)).1) (h0 : ∀ k, k < nl → 2 ≤ (e k).1) : ∀ k, k < nl → 2 * k + 2 ≤ (e k).1 := by
  intro k
  induction k with
  | zero => intro hk; exact h0 0 hk
  | succ k ih =>
    intro hk
    have h1 := h k hk
    have := (lend_gt (e k)).1
    have := ih (by omega)
    omega
/-- a late instruction put by both, and what the reference keeps of it -/
theorem CD.late (h : CD bn sm nd nu M S mk j rc cc a rv) {o tok ρ rv' a' : Nat} (ho : 25 ≤ o ∧ o ≤ 27) (hcf : 10000 * bn + rc < 20000) (hrc : rc < 10000) (he : EMC bn S nd nu mk j (o, tok, iu) ρ) (h8 : mF S 8 = 0) (h49 : mF S 49 = nI iu - 1) (hiu : iu ≤ 24) (h2 : 2 ≤ tok) (ht : tok ≤ 4000) (ha4 : a ≤ 4000) (hrel : a ≤ tok ∨ rv = tok ∧ o ≠ 27) (hrv : rv' = 0 ∨ rv' = rv ∧ (rv = 0 ∨ rv + 3 ≤ tok)) (ha : a ≤ a') (hx : lend (tok, rc, o, iu) < a') (N : Nat) (hN : 2001 < N) {x2 x4 : Int32} (hx2 : x2 = if o = 27 then -1 else nI (tok + 2)) (hx4 : x4 = if o = 26 then 1 else 0) :
    ∃ S2, fM_later N (nI tok) x2 (nI rc) x4 (emS S (10000 * bn + rc) rc (rfd (10000 * bn) (o, tok, iu)).1 (rfd (10000 * bn) (o, tok, iu)).2.1 (rfd (10000 * bn) (o, tok, iu)).2.2) = some S2 ∧ (∀ k, k ≠ 38 → k ≠ 48 → mF S2 k = mF S k) ∧ mF S2 38 = nI (rc + 1) ∧ mL S2 = mL S ∧ (∀ r, ¬ (39 ≤ r ∧ r ≤ 41) → ¬ (43 ≤ r ∧ r ≤ 47) → mA S2 r = mA S r) ∧ (∀ r i, 39 ≤ r ∧ r ≤ 41 → i ≠ 10000 * bn + rc → mA S2 r i = mA S r i) ∧
    CD bn sm nd nu (emC M sm cc (cw bn S (o, tok, iu))) S2 ((rc, cc, (o, tok, iu), (j.1, j.2.1, ρ)) :: mk) (nxt rc o (j.1, j.2.1, ρ)) (rc + 1) (cc + 1) a' rv' := by
  obtain ⟨pw, g, pi, J, c1, c2, c3, c4, c5, c6, nl, e, l1, l2, l3, l4⟩ := h
  have hx1 : (o, tok, iu).1 < 10 ∨ 13 < (o, tok, iu).1 := Or.inr (by show 13 < o; omega)
  have hcg := c1.em (o, tok, iu) (by show o ≠ 13; omega) (by show o ≠ 31; omega) (fun h1 h2 => by have : o ≤ 13 := h2; omega) hcf
  rw [cw_eq bn S pi hx1] at hcg
  have o1 : ∀ k, ¬ (39 ≤ k ∧ k ≤ 41) → mA (emS S (10000 * bn + rc) rc (rfd (10000 * bn) (o, tok, iu)).1 (rfd (10000 * bn) (o, tok, iu)).2.1 (rfd (10000 * bn) (o, tok, iu)).2.2) k = mA S k := fun k hk => emS_o hk
  have of : ∀ k, k ≠ 38 → mF (emS S (10000 * bn + rc) rc (rfd (10000 * bn) (o, tok, iu)).1 (rfd (10000 * bn) (o, tok, iu)).2.1 (rfd (10000 * bn) (o, tok, iu)).2.2) k = mF S k := fun k hk => emS_f hk
  have o38 : mF (emS S (10000 * bn + rc) rc (rfd (10000 * bn) (o, tok, iu)).1 (rfd (10000 * bn) (o, tok, iu)).2.1 (rfd (10000 * bn) (o, tok, iu)).2.2) 38 = nI (rc + 1) := rfl
  have o39 : ∀ r i, 39 ≤ r ∧ r ≤ 41 → i ≠ 10000 * bn + rc → mA (emS S (10000 * bn + rc) rc (rfd (10000 * bn) (o, tok, iu)).1 (rfd (10000 * bn) (o, tok, iu)).2.1 (rfd (10000 * bn) (o, tok, iu)).2.2) r i = mA S r i := fun r i hr hi => by
    unfold emS
    rw [mA_F, mA_A, if_neg (fun q => hi q.2), mA_A, if_neg (fun q => hi q.2), mA_A, if_neg (fun q => hi q.2)]
  have oL : mL (emS S (10000 * bn + rc) rc (rfd (10000 * bn) (o, tok, iu)).1 (rfd (10000 * bn) (o, tok, iu)).2.1 (rfd (10000 * bn) (o, tok, iu)).2.2) = mL S := rfl
  generalize emS S (10000 * bn + rc) rc (rfd (10000 * bn) (o, tok, iu)).1 (rfd (10000 * bn) (o, tok, iu)).2.1 (rfd (10000 * bn) (o, tok, iu)).2.2 = S1 at *
  have srt := LT.srt l3
  have low := LT.low l3 (fun k hk => (l2 k hk).1)
  have up : ∀ k, k < nl → (e k).1 + 1 < a := fun k hk => by have := (l2 k hk).2.1; have := (lend_gt (e k)).1; omega
  have hnl : nl < 2000 := by
    rcases Nat.eq_zero_or_pos nl with q | q
    · omega
    · have := low (nl - 1) (by omega); have := up (nl - 1) (by omega); omega
  have lx := lend_gt (tok, rc, o, iu)
  have rel : ∀ k, k < nl → ((e k).1 ≠ tok) ∧ ((e k).1 < tok → lend (e k) < tok) ∧ (tok < (e k).1 → lend (tok, rc, o, iu) < (e k).1) := fun k hk => by
    have hk1 := (lend_gt (e k)).1
    have hk2 := (l2 k hk).2.1
    rcases hrel with q | ⟨q, q2⟩
    · exact ⟨by omega, fun _ => by omega, fun _ => by omega⟩
    · have := (l2 k hk).2.2.1
      have lx2 : lend (tok, rc, o, iu) = tok + 2 := by unfold lend; exact if_neg q2
      refine ⟨?_, fun _ => ?_, fun _ => ?_⟩ <;> omega
  obtain ⟨p, S2, p1, p2, p3, p4, p5, p6, p7, p8, p9⟩ := later_ok (S := S1) N hN (nl := nl) (e := e) (x := (tok, rc, o, iu)) (by rw [of 8 (by decide)]; exact h8) (by rw [of 48 (by decide)]; exact l1) (by rw [of 49 (by decide)]; exact h49) hnl (fun k hk => by
      have := (l2 k hk).2.2.2.2.2.2.2.2
      unfold R5 at this ⊢
      rw [o1 43 (by omega), o1 44 (by omega), o1 45 (by omega), o1 46 (by omega), o1 47 (by omega)]
      exact this) (fun k hk => by have := up k hk; omega) (show tok < 2 ^ 30 by omega) (fun i k h1 h2 => by have := srt k h2 i h1; have := (lend_gt (e i)).1; omega) (fun k hk => (rel k hk).1) hx2 hx4
  refine ⟨S2, p2, fun k h1 h2 => (p4 k h2).trans (of k h1), by rw [p4 38 (by decide)]; exact o38, p5.trans oL, fun r hr hr2 => (p6 r hr2).trans (o1 r hr), fun r i hr hi => by rw [p6 r (by omega)]; exact o39 r i hr hi, ?_⟩
  have jn : ∀ i, i < rc → jem J rc o (j.1, j.2.1, ρ) i = J i := fun i hi => by unfold jem; rw [if_neg (by omega), if_neg (by omega)]
  have vo : ∀ y, VO bn S nd nu y → VO bn S2 nd nu y := fun y hy => by
    unfold VO SLs at hy ⊢
    rw [p6 25 (by omega), p6 27 (by omega), p6 4 (by omega), o1 25 (by omega), o1 27 (by omega), o1 4 (by omega)]
    exact hy
  refine ⟨List.pairwise_cons.mpr ⟨fun m hm => MP_lt (c4 m hm), pw⟩, gem g rc (o, tok, iu), (fun i => if i = rc + 1 then cc + 1 else pi i), jem J rc o (j.1, j.2.1, ρ), ?_, W_em c2 (x := (o, tok, iu)) (by rw [c3]) (by rw [c3]) (by rw [c3]; exact he.1.1) (he.em1 c4 hx1), ?_, fun m hm => ?_, fun i hi h28 => ?_, fun i hi => ?_, nl + 1, ins e p (tok, rc, o, iu), p3, fun k hk => ?_, fun k hk => ?_, fun c hc h1 h2 => ?_⟩
  · unfold CG at hcg ⊢
    rw [p6 39 (by omega), p6 40 (by omega), p6 41 (by omega)]
    refine ⟨hcg.1, fun i hi => ?_, hcg.2.2⟩
    rw [cwd_ag (S' := S2) (S := S1) (p6 28 (by omega)) (p6 29 (by omega)) (fun _ _ => rfl)]
    exact hcg.2.1 i hi
  · unfold jem; rw [if_neg (by omega), if_pos rfl]
  · rcases List.mem_cons.mp hm with q | q
    · subst q
      exact ⟨fun _ => ⟨Nat.lt_succ_self _, if_pos rfl, if_pos rfl⟩, by show (if rc = rc + 1 then cc + 1 else pi rc) = cc; rw [if_neg (by omega)]; exact c1.1, fun e => absurd e he.1.2⟩
    · exact (c4 m q).em c1 (by rw [c3]) (by rw [c3]) (fun q hq => by unfold emC; rw [cL_I, cL_w, if_neg (by omega)])
  · by_cases q : i = rc
    · exact ⟨_, List.mem_cons_self .., q.symm, he.1.2⟩
    · have h28' : 28 ≤ (if i = rc then (o, tok, iu) else g i).1 := h28
      rw [if_neg q] at h28'
      obtain ⟨m, w1, w2⟩ := c5 i (by omega) h28'
      exact ⟨m, List.mem_cons_of_mem _ w1, w2⟩
  · show VO bn S2 nd nu (if i = rc then (o, tok, iu) else g i)
    by_cases q : i = rc
    · rw [if_pos q]; exact vo _ he.2.1
    · rw [if_neg q]; exact vo _ (c6 i (by omega))
  · have r5 := p7 k hk
    have old : ∀ i, i < nl → ins e p (tok, rc, o, iu) k = e i → LTe (gem g rc (o, tok, iu)) S2 (rc + 1) a' rv' k (ins e p (tok, rc, o, iu) k) := fun i hi q => by
      rw [q] at r5 ⊢
      obtain ⟨w1, w2, w3, w4, w5, w6, w7, w8, w9⟩ := l2 i hi
      refine ⟨w1, by omega, by omega, by omega, ?_, w6, w7, w8, r5⟩
      unfold gem
      rw [if_neg (by omega)]
      exact w5
    by_cases q1 : k < p
    · exact old k (by omega) (by unfold ins; rw [if_pos q1])
    · by_cases q2 : k = p
      · have q : ins e p (tok, rc, o, iu) k = (tok, rc, o, iu) := by unfold ins; rw [if_neg q1, if_pos q2]
        rw [q] at r5 ⊢
        exact ⟨h2, hx, by show rv' = 0 ∨ _ ∨ rv' + 3 ≤ tok; omega, Nat.lt_succ_self _, if_pos rfl, ho.1, ho.2, hiu, r5⟩
      · exact old (k - 1) (by omega) (by unfold ins; rw [if_neg q1, if_neg q2])
  · have hkn : k < nl := by omega
    have e1 : ∀ i, i < p → ins e p (tok, rc, o, iu) i = e i := fun i hi => by unfold ins; rw [if_pos hi]
    have e2 : ins e p (tok, rc, o, iu) p = (tok, rc, o, iu) := by unfold ins; rw [if_neg (by omega), if_pos rfl]
    have e3 : ∀ i, p < i → ins e p (tok, rc, o, iu) i = e (i - 1) := fun i hi => by unfold ins; rw [if_neg (by omega), if_neg (by omega)]
    rcases Nat.lt_trichotomy (k + 1) p with q | q | q
    · rw [e1 _ q, e1 _ (by omega)]; exact l3 k (by omega)
    · rw [e1 k (by omega), q, e2]
      exact (rel k hkn).2.1 (p9 k (by omega))
    · by_cases q2 : k = p
      · rw [q2, e2, e3 _ (by omega)]
        exact (rel p (by omega)).2.2 (p8 p (Nat.le_refl _) (by omega))
      · rw [e3 k (by omega), e3 (k + 1) (by omega)]
        have := l3 (k - 1) (by omega)
        rw [show k - 1 + 1 = k by omega] at this
        exact this
  · have h1' : 25 ≤ (if c = rc then (o, tok, iu) else g c).1 := h1
    have h2' : (if c = rc then (o, tok, iu) else g c).1 ≤ 27 := h2
    by_cases q : c = rc
    · exact ⟨p, by omega, by unfold ins; rw [if_neg (by omega), if_pos rfl]; exact q.symm⟩
    · rw [if_neg q] at h1' h2'
      obtain ⟨k, k1, k2⟩ := l4 c (by omega) h1' h2'
      by_cases q1 : k < p
      · exact ⟨k, by omega, by unfold ins; rw [if_pos q1]; exact k2⟩
      · exact ⟨k + 1, by omega, by unfold ins; rw [if_neg (by omega), if_neg (by omega)]; exact k2⟩
theorem PS.late (h : PS z b bn sm size t nd nu nm iu ex K0 K M S mk j rc cc a (v + 1) rv dp) {a0 o tok ρ rv' : Nat} (hc : CD bn sm nd nu M S mk j rc cc a0 rv) (h0 : a0 ≤ a) (ho : 25 ≤ o ∧ o ≤ 27) (he : EMC bn S nd nu mk j (o, tok, iu) ρ) (h2 : 2 ≤ tok) (hrel : a0 ≤ tok ∨ rv = tok ∧ o ≠ 27) (hrv : rv' = 0 ∨ rv' = rv ∧ (rv = 0 ∨ rv + 3 ≤ tok)) (hx : tok + (if o = 27 then 1 else 2) < a) (N : Nat) (hN : 2001 < N) {x2 x4 : Int32} (hx2 : x2 = if o = 27 then -1 else nI (tok + 2)) (hx4 : x4 = if o = 26 then 1 else 0) :
    ∃ S2, fM_later N (nI tok) x2 (nI rc) x4 (emS S (10000 * bn + rc) rc (rfd (10000 * bn) (o, tok, iu)).1 (rfd (10000 * bn) (o, tok, iu)).2.1 (rfd (10000 * bn) (o, tok, iu)).2.2) = some S2 ∧ FR z b sm K0 M (emC M sm cc (cw bn S (o, tok, iu))) S S2 ∧ mF S2 7 = mF S 7 ∧
    PS z b bn sm size t nd nu nm iu ex K0 K (emC M sm cc (cw bn S (o, tok, iu))) S2 mk (nxt rc o (j.1, j.2.1, ρ)) (rc + 1) (cc + 1) a v rv' dp := by
  have hr := h.room
  have ht := h.t4
  have hz := h.hz
  obtain ⟨e, s, p, c, dd, l, q1, q2, q3, q4⟩ := id h
  have hiu : iu ≤ 24 := by have := s.2.2.2.2.2.2; have := s.1.2.2.2.2.2.1; omega
  have hx' : lend (tok, rc, o, iu) < a := by
    show (if o = 27 then tok + 1 else tok + 2) < a
    by_cases w : o = 27
    · rw [if_pos w] at hx ⊢; exact hx
    · rw [if_neg w] at hx ⊢; exact hx
  obtain ⟨S2, s1, s2, s3, s4, s5, s6, s7⟩ := hc.late (a' := a) (rv' := rv') ho (by omega) (by omega) he h.f0 s.2.2.2.2.1 hiu h2 (by split at hx <;> omega) (by omega) hrel hrv h0 hx' N hN hx2 hx4
  have nb : ∀ k, bw k = 10000 → ¬ OB b k (10000 * bn + rc) := fun k hk => ob_n e.1 e.2.1 hk (by decide) (by omega) (by omega)
  have hf : FR z b sm K0 M (emC M sm cc (cw bn S (o, tok, iu))) S S2 := by
    have h1 := FR.em (M := M) (S := S) (cc := cc) (rc := rc) e (by omega) (cw bn S (o, tok, iu)) 0 0 0
    refine ⟨h1.1, h1.2.1, h1.2.2.1, h1.2.2.2.1, h1.2.2.2.2.1, fun k w1 w2 w3 w4 w5 w6 => s2 k w2 w3, fun k w1 w2 w3 => s5 k (by omega) (by omega), s4, h1.2.2.2.2.2.2.2.2.1, fun k hk => s2 k (by unfold OF at hk; omega) (by unfold OF at hk; omega), fun k i hk => ?_, fun k i hk => by rw [s4]⟩
    by_cases w2 : 39 ≤ k ∧ k ≤ 41
    · exact s6 k i w2 (fun q => by subst q; exact nb k (by rcases (show k = 39 ∨ k = 40 ∨ k = 41 by omega) with q | q | q <;> subst q <;> rfl) hk)
    · rw [s5 k w2 hk.2.1]
  refine ⟨S2, s1, hf, s2 7 (by decide) (by decide), e, s.fr hf hz, ?_, c.em (by omega) _, s7.drop (by show o < 28; omega), l.q (emC_I (by omega)) (s5 34 (by omega) (by omega)), s3, by rw [s2 50 (by decide) (by decide)]; exact q2, by omega, q4⟩
  have pe := p.em (sm := sm) hz 0 0 cc (cw bn S (o, tok, iu)) 0 0 0
  obtain ⟨h1, h2, h3, h4, h5, h6, h7, h8⟩ := pe
  refine ⟨h1, ?_, h3, by rw [s2 7 (by decide) (by decide)]; exact p.2.2.2.1, by rw [s2 8 (by decide) (by decide)]; exact p.2.2.2.2.1, h6, h7, by rw [s4]; exact p.2.2.2.2.2.2.2⟩
  have t2 := h2
  unfold TKS TK1 at t2 ⊢
  rw [emS_o (by omega), emS_o (by omega)] at t2
  rw [s5 4 (by omega) (by omega), s5 5 (by omega) (by omega), s4]
  exact t2
end PLATE
