/-! jumps while statements are read -/
section JUMPS
variable {z b bn sm size t nd nu nm iu : Nat} {ex : Nat → Nat → Prop} {K0 K : Ka} {M M' : Cm} {S S' : Ms} {mk : List Mk} {j : Jt} {rc cc a v rv dp : Nat}
theorem mk_uq {l1 l2 : List Mk} {m : Mk} (hm : m.2.2.1.1 ≠ 99) (h : List.Pairwise MP (l1 ++ m :: l2)) : List.Pairwise MP (l1 ++ l2) ∧ ∀ m', m' ∈ l1 ++ l2 → m'.2.2.1.1 ≠ 99 → m'.1 ≠ m.1 := by
  obtain ⟨h1, h2, h3⟩ := List.pairwise_append.mp h
  obtain ⟨h4, h5⟩ := List.pairwise_cons.mp h2
  refine ⟨List.pairwise_append.mpr ⟨h1, h5, fun x hx y hy => h3 x hx y (List.mem_cons_of_mem _ hy)⟩, fun m' hm' hne => ?_⟩
  rcases List.mem_append.mp hm' with q | q
  · rcases h3 m' q m (List.mem_cons_self ..) with w | w | w
    · exact absurd w hne
    · exact absurd w hm
    · omega
  · rcases h4 m' q with w | w | w
    · exact absurd w hm
    · exact absurd w hne
    · omega
/-- marks stand where one jump is aimed -/
theorem MC.aim {g : Nat → Nat × Nat × Nat} {pi : Nat → Nat} {J : Nat → Jt} {m : Mk} {M1 : Cm} {k p : Nat} (h : MC sm M g pi J rc m) (hg : CG bn (10000 * bn) sm M S g pi rc cc) (hk : k < rc) (ho : 28 ≤ (g k).1 ∧ (g k).1 ≤ 31) (hp : pi k ≤ p ∧ p < pi k + tw (g k)) (hne : m.2.2.1.1 ≠ 99 → m.1 ≠ k) (hL : ∀ q, q ≠ p → cL M1 (sm + 10) q = cL M (sm + 10) q) : MC sm M1 (gai g rc k) pi (jai J rc k) rc m := by
  obtain ⟨a1, a2, a3⟩ := h
  have jn : ∀ i, i < rc → jai J rc k i = J i := fun i hi => by unfold jai; rw [if_neg (by omega)]
  refine ⟨fun e => ?_, a2, fun e => ?_⟩
  · obtain ⟨b1, b2, b3⟩ := a1 e
    exact ⟨b1, by unfold gai; rw [if_neg (hne e)]; exact b2, by rw [jn _ b1]; exact b3⟩
  · obtain ⟨b1, b2, b3, b4, b5, b6, b7⟩ := a3 e
    have twk : ∀ i, tw (gai g rc k i) = tw (g i) := fun i => by
      unfold gai
      by_cases q : i = k
      · subst q
        rw [if_pos rfl]
        unfold tw aop
        rcases (show (g i).1 = 28 ∨ (g i).1 = 29 ∨ (g i).1 = 30 ∨ (g i).1 = 31 by omega) with w | w | w | w <;> rw [w] <;> rfl
      · rw [if_neg q]
    have hj : (jai J rc k m.1).1 = (J m.1).1 ∧ (jai J rc k m.1).2.1 = (J m.1).2.1 := by
      by_cases q : m.1 = rc
      · rw [q]; unfold jai; rw [if_pos rfl]; exact ⟨rfl, rfl⟩
      · rw [jn _ (by omega)]; exact ⟨rfl, rfl⟩
    have out : ∀ q, m.2.1 - (m.2.2.2.2.1.length + m.2.2.1.2.1) ≤ q → q < m.2.1 → q ≠ p := fun q q1 q2 => by
      by_cases w : k < m.1
      · have := b5 k w; omega
      · have : m.2.1 ≤ pi k := by
          rw [← a2]
          by_cases y : m.1 = k
          · rw [y]; exact Nat.le_refl _
          · have := hg.mono k (by omega) m.1 (by omega); omega
        omega
    refine ⟨b1, by rw [hj.1]; exact b2, by rw [hj.2]; exact b3, b4, fun i hi => by rw [twk]; exact b5 i hi, fun i hi => ?_, fun w => ?_⟩
    · rw [hL _ (out _ (by omega) (by omega))]; exact b6 i hi
    · rw [hL _ (out _ (by omega) (by omega))]; exact b7 w
theorem LT.aim {g : Nat → Nat × Nat × Nat} {k o : Nat} (h : LT g S rc a rv) (hk : 28 ≤ (g k).1) (ho : o < 25) (hA : ∀ k, 43 ≤ k ∧ k ≤ 47 → mA S' k = mA S k) (h48 : mF S' 48 = mF S 48) {p q : Nat} : LT (fun i => if i = k then (o, p, q) else g i) S' rc a rv := by
  obtain ⟨nl, e, l1, l2, l3, l4⟩ := h
  refine ⟨nl, e, by rw [h48]; exact l1, fun i hi => ?_, l3, fun c hc h1 h2 => ?_⟩
  · obtain ⟨w1, w2, w3, w4, w5, w6, w7, w8, w9⟩ := l2 i hi
    refine ⟨w1, w2, w3, w4, ?_, w6, w7, w8, ?_⟩
    · show (if (e i).2.1 = k then (o, p, q) else g (e i).2.1) = _
      rw [if_neg (fun y => by rw [← y, w5] at hk; have : 28 ≤ (e i).2.2.1 := hk; omega)]; exact w5
    · unfold R5 at w9 ⊢; rw [hA 43 (by omega), hA 44 (by omega), hA 45 (by omega), hA 46 (by omega), hA 47 (by omega)]; exact w9
  · have h1' : 25 ≤ (if c = k then (o, p, q) else g c).1 := h1
    have h2' : (if c = k then (o, p, q) else g c).1 ≤ 27 := h2
    by_cases y : c = k
    · rw [if_pos y] at h1'; have : 25 ≤ o := h1'; omega
    · rw [if_neg y] at h1' h2'
      exact l4 c hc h1' h2'
/-- a jump aimed here by both -/
theorem CD.aim {l1 l2 : List Mk} {k ck o : Nat} {jk : Jt} (h : CD bn sm nd nu M S (l1 ++ (k, ck, (o, 0, 0), jk) :: l2) j rc cc a rv) (ho : o = 28 ∨ o = 29 ∨ o = 30) (h1 : j.1 + pp o = jk.1) (h2 : j.2.1 = jk.2.1) (hk : k < 10000) :
    k < rc ∧ ck < cc ∧ CD bn sm nd nu (aimC M sm cc ck) (pA S 40 (10000 * bn + k) (nI (10000 * bn + rc))) (l1 ++ l2) (j.1, j.2.1, max j.2.2 (jk.2.2 + 1)) rc cc a rv := by
  obtain ⟨pw, g, pi, J, c1, c2, c3, c4, c5, c6, c7⟩ := h
  obtain ⟨pw2, un⟩ := mk_uq (by show o ≠ 99; omega) pw
  obtain ⟨⟨w1, w2, w4⟩, w3⟩ : (k < rc ∧ g k = (o, 0, 0) ∧ J k = jk) ∧ pi k = ck := ⟨(c4 (k, ck, (o, 0, 0), jk) (List.mem_append.mpr (Or.inr (List.mem_cons_self ..)))).1 (by show o ≠ 99; omega), (c4 (k, ck, (o, 0, 0), jk) (List.mem_append.mpr (Or.inr (List.mem_cons_self ..)))).2.1⟩
  have w1' : k < rc := w1
  have w2' : g k = (o, 0, 0) := w2
  have w3' : pi k = ck := w3
  have w4' : J k = jk := w4
  have sub : ∀ m, m ∈ l1 ++ l2 → m ∈ l1 ++ (k, ck, (o, 0, 0), jk) :: l2 := fun m hm => by
    rcases List.mem_append.mp hm with q | q
    · exact List.mem_append.mpr (Or.inl q)
    · exact List.mem_append.mpr (Or.inr (List.mem_cons_of_mem _ q))
  have hcg := c1.aim w1' (by rw [w2']; rcases ho with q | q | q <;> subst q <;> simp)
  have lt : pi k + tw (g k) ≤ cc := by rw [← c1.1]; exact c1.mono rc (Nat.le_refl _) k w1'
  have := (tw_pos (g k)).1
  rw [w3'] at hcg lt
  have o40 : ∀ r, r ≠ 40 → mA (pA S 40 (10000 * bn + k) (nI (10000 * bn + rc))) r = mA S r := fun r hr => mA_Ane _ _ _ hr
  have og : (fun i => if i = k then (if (g k).1 = 28 then 11 else if (g k).1 = 29 then 10 else 12, rc, 0) else g i) = gai g rc k := by
    funext i
    unfold gai aop
    rw [w2']
    rcases ho with q | q | q <;> subst q <;> rfl
  rw [og] at hcg
  have gn : ∀ i, i ≠ k → gai g rc k i = g i := fun i hi => if_neg hi
  refine ⟨w1', by omega, pw2, gai g rc k, pi, jai J rc k, hcg, W_aim c2 w1' (by rw [w2']; show 28 ≤ o ∧ o ≤ 31; omega) (by rw [w2', w4', c3]; exact h1) (by rw [w2', w4', c3, if_neg (show ¬ o = 31 by omega)]; exact h2), ?_, fun m hm => ?_, fun i hi h28 => ?_, fun i hi => ?_, ?_⟩
  · unfold jai
    rw [if_pos rfl, c3, w4']
  · exact (c4 m (sub m hm)).aim c1 w1' (by rw [w2']; show 28 ≤ o ∧ o ≤ 31; omega) (p := ck) (by rw [w3']; omega) (un m hm) (fun q hq => by unfold aimC; rw [cL_w, if_neg (fun y => hq y.2)])
  · by_cases e : i = k
    · subst e
      have : (gai g rc i i).1 = aop (g i).1 := by unfold gai; rw [if_pos rfl]
      rw [this, w2'] at h28
      rcases ho with q | q | q <;> subst q <;> exact absurd h28 (by first | decide | simp [aop])
    · rw [gn _ e] at h28
      obtain ⟨m, x1, x2⟩ := c5 i hi h28
      refine ⟨m, ?_, x2⟩
      rcases List.mem_append.mp x1 with q | q
      · exact List.mem_append.mpr (Or.inl q)
      · rcases List.mem_cons.mp q with q | q
        · subst q; exact absurd x2.1.symm e
        · exact List.mem_append.mpr (Or.inr q)
  · have vo : ∀ y, VO bn S nd nu y → VO bn (pA S 40 (10000 * bn + k) (nI (10000 * bn + rc))) nd nu y := fun y hy => by
      unfold VO SLs at hy ⊢
      rw [o40 25 (by first | decide | simp [aop]), o40 27 (by first | decide | simp [aop]), o40 4 (by first | decide | simp [aop])]
      exact hy
    by_cases e : i = k
    · subst e
      have : gai g rc i i = (aop (g i).1, rc, 0) := by unfold gai; rw [if_pos rfl]
      rw [this, w2']
      exact VO.triv (by rcases ho with q | q | q <;> subst q <;> simp [aop])
    · rw [gn _ e]; exact vo _ (c6 i hi)
  · have e : gai g rc k = (fun i => if i = k then (aop o, rc, 0) else g i) := by funext i; unfold gai; rw [w2']
    rw [e]
    exact c7.aim (by rw [w2']; show 28 ≤ o; omega) (by rcases ho with q | q | q <;> subst q <;> first | decide | simp [aop]) (fun r hr => o40 r (by omega)) rfl
theorem FR.aim (e : EVP z b bn sm t K0 K) (ck : Nat) {k : Nat} (hk : k < 10000) (x : Int32) : FR z b sm K0 M (aimC M sm cc ck) S (pA S 40 (10000 * bn + k) x) := by
  obtain ⟨e1, e2, e3, e4, e5, -⟩ := e
  refine ⟨fun _ _ _ _ => rfl, fun a h1 => cL_wL_ne _ _ _ h1, rfl, fun _ _ _ => rfl, fun _ _ => rfl, fun _ _ _ _ _ _ _ => rfl, fun r h1 h2 h3 => mA_Ane _ _ _ (by omega), rfl, ⟨fun a h1 h2 => ⟨rfl, cL_wL_ne _ _ _ (by omega)⟩, fun _ _ _ _ => rfl⟩, AgO.pA (ob_n e1 e2 (w := 10000) rfl (by first | decide | simp [aop]) (by omega) (by omega)) _⟩
theorem PT.aim (h : PT z K M S size t a) (hz : z + 174 ≤ sm) (c ck i : Nat) (x : Int32) : PT z K (aimC M sm c ck) (pA S 40 i x) size t a := by
  obtain ⟨h1, h2, h3, h4, h5, h6, h7, h8⟩ := h
  refine ⟨h1, ?_, h3, h4, h5, h6, h7, h8⟩
  have cl : ∀ q, q ≠ sm + 10 → cL (aimC M sm c ck) q = cL M q := fun q hq => cL_wL_ne _ _ _ hq
  unfold TKS TK1 at h2 ⊢
  rw [cl (z + 5) (by omega), mA_Ane _ _ _ (by first | decide | simp [aop]), mA_Ane _ _ _ (by first | decide | simp [aop])]
  exact h2
theorem PS.aim {l1 l2 : List Mk} {k ck o : Nat} {jk : Jt} (h : PS z b bn sm size t nd nu nm iu ex K0 K M S (l1 ++ (k, ck, (o, 0, 0), jk) :: l2) j rc cc a v rv dp) (ho : o = 28 ∨ o = 29 ∨ o = 30) (h1 : j.1 + pp o = jk.1) (h2 : j.2.1 = jk.2.1) (N : Nat) :
    fC_X5_aimHere N K sm (nI ck) M = some (aimC M sm cc ck) ∧ fM_here N (nI k) S = some (pA S 40 (10000 * bn + k) (nI (10000 * bn + rc))) ∧ FR z b sm K0 M (aimC M sm cc ck) S (pA S 40 (10000 * bn + k) (nI (10000 * bn + rc))) ∧
    PS z b bn sm size t nd nu nm iu ex K0 K (aimC M sm cc ck) (pA S 40 (10000 * bn + k) (nI (10000 * bn + rc))) (l1 ++ l2) (j.1, j.2.1, max j.2.2 (jk.2.2 + 1)) rc cc a v rv dp := by
  have hr := h.room
  obtain ⟨e, s, p, c, dd, l, q1, q2, q3, q4⟩ := id h
  have hz := h.hz
  have hk : k < rc := by
    obtain ⟨-, g, pi, J, -, -, -, c4, -⟩ := dd
    exact ((c4 _ (List.mem_append.mpr (Or.inr (List.mem_cons_self ..)))).1 (by show o ≠ 99; omega)).1
  obtain ⟨x1, x2, x3⟩ := dd.aim ho h1 h2 (by omega)
  have hf := FR.aim (M := M) (S := S) (cc := cc) e ck (k := k) (by omega) (nI (10000 * bn + rc))
  exact ⟨aim_ok c N x2, here_ok s.2.2.2.1 q1 (by omega) N, hf, e, s.fr hf hz, p.aim hz _ _ _ _, c.aim ck, x3, l.q rfl (mA_Ane _ _ _ (by first | decide | simp [aop])), q1, q2, q3, q4⟩
/-- the jump back of a while -/
theorem CD.emJ {k ck : Nat} (h : CD bn sm nd nu M S mk j rc cc a rv) (hm : (k, ck, (1, 0, 0), (j.1, j.2.1, 90)) ∈ mk) {ρ : Nat} (hcf : 10000 * bn + rc < 20000) (hρ : j.2.2 ≤ ρ) (h34 : j.1 ≤ 34) (hρ2 : ρ < 90) (hT : TCx mk j.2.1 (ρ + 1)) :
    CD bn sm nd nu (emC M sm cc (wd 16 (nI ck) 0)) (emS S (10000 * bn + rc) rc 10 (nI (10000 * bn + k)) 0) mk (j.1, j.2.1, 0) (rc + 1) (cc + 1) a rv := by
  obtain ⟨pw, g, pi, J, c1, c2, c3, c4, c5, c6, c7⟩ := h
  obtain ⟨⟨w1, w2, w4⟩, w3⟩ : (k < rc ∧ g k = (1, 0, 0) ∧ J k = (j.1, j.2.1, 90)) ∧ pi k = ck := ⟨(c4 _ hm).1 (by simp), (c4 _ hm).2.1⟩
  have w1' : k < rc := w1
  have w3' : pi k = ck := w3
  have w4' : J k = (j.1, j.2.1, 90) := w4
  have hcg := c1.em (10, k, 0) (by first | decide | simp [aop]) (by first | decide | simp [aop]) (fun _ _ => by show k ≤ rc; omega) hcf
  have ec : cwd bn S pi (10, k, 0) = wd 16 (nI ck) 0 := by rw [← w3']; rfl
  have er : rfd (10000 * bn) (10, k, 0) = (10, nI (10000 * bn + k), 0) := rfl
  rw [ec, er] at hcg
  dsimp only at hcg
  have o : ∀ r, ¬ (39 ≤ r ∧ r ≤ 41) → mA (emS S (10000 * bn + rc) rc 10 (nI (10000 * bn + k)) 0) r = mA S r := fun r hr => emS_o hr
  have of : mF (emS S (10000 * bn + rc) rc 10 (nI (10000 * bn + k)) 0) 48 = mF S 48 := emS_f (by first | decide | simp [aop])
  have oL : ∀ q, q < cc → cL (emC M sm cc (wd 16 (nI ck) 0)) (sm + 10) q = cL M (sm + 10) q := fun q hq => by unfold emC; rw [cL_I, cL_w, if_neg (by omega)]
  generalize emS S (10000 * bn + rc) rc 10 (nI (10000 * bn + k)) 0 = S1 at *
  generalize emC M sm cc (wd 16 (nI ck) 0) = M1 at *
  have jn : ∀ i, i < rc → jem J rc 10 (j.1, j.2.1, ρ) i = J i := fun i hi => by unfold jem; rw [if_neg (by omega), if_neg (by omega)]
  have vo : ∀ y, VO bn S nd nu y → VO bn S1 nd nu y := fun y hy => by
    unfold VO SLs at hy ⊢
    rw [o 25 (by omega), o 27 (by omega), o 4 (by omega)]
    exact hy
  refine ⟨pw, _, _, jem J rc 10 (j.1, j.2.1, ρ), hcg, W_em c2 (x := (10, k, 0)) (by rw [c3]) (by rw [c3]) (by rw [c3]; exact hρ) ⟨⟨h34, hT.1, Nat.zero_le _⟩, fun q => absurd q (by first | decide | simp [aop]), ⟨by simp, by simp, by simp⟩, fun _ => ⟨w1', by show (J k).1 = j.1; rw [w4'], by show (J k).2.1 = j.2.1; rw [w4'], by show ρ < (J k).2.2; rw [w4']; exact hρ2⟩, fun q => absurd q (by first | decide | simp [aop]), fun q => absurd q (by first | decide | simp [aop]), fun _ => ⟨hρ2, fun _ _ => raise_of c4 hT⟩, fun q => absurd q (by first | decide | simp [aop])⟩, ?_, fun m hm => ?_, fun i hi h28 => ?_, fun i hi => ?_, c7.em (by first | decide | simp [aop]) (fun r hr => o r (by omega)) of⟩
  · unfold jem; rw [if_neg (by omega), if_pos rfl]; rfl
  · exact (c4 m hm).em c1 (by rw [c3]) (by rw [c3]) oL
  · have h28' : 28 ≤ (if i = rc then (10, k, 0) else g i).1 := h28
    by_cases q : i = rc
    · rw [if_pos q] at h28'; exact absurd h28' (by first | decide | simp [aop])
    · rw [if_neg q] at h28'
      exact c5 i (by omega) h28'
  · show VO bn S1 nd nu (if i = rc then (10, k, 0) else g i)
    by_cases q : i = rc
    · rw [if_pos q]; exact VO.triv (by first | decide | simp [aop])
    · rw [if_neg q]; exact vo _ (c6 i (by omega))
theorem PS.emJ {k ck : Nat} (h : PS z b bn sm size t nd nu nm iu ex K0 K M S mk j rc cc a (v + 1) rv dp) (hm : (k, ck, (1, 0, 0), (j.1, j.2.1, 90)) ∈ mk) {ρ : Nat} (hρ : j.2.2 ≤ ρ) (h34 : j.1 ≤ 34) (hρ2 : ρ < 90) (hT : TCx mk j.2.1 (ρ + 1)) :
    FR z b sm K0 M (emC M sm cc (wd 16 (nI ck) 0)) S (emS S (10000 * bn + rc) rc 10 (nI (10000 * bn + k)) 0) ∧
    PS z b bn sm size t nd nu nm iu ex K0 K (emC M sm cc (wd 16 (nI ck) 0)) (emS S (10000 * bn + rc) rc 10 (nI (10000 * bn + k)) 0) mk (j.1, j.2.1, 0) (rc + 1) (cc + 1) a v rv dp := by
  have hr := h.room
  obtain ⟨e, s, p, c, dd, l, q1, q2, q3, q4⟩ := id h
  have hz := h.hz
  have hf := FR.em (M := M) (S := S) (cc := cc) (rc := rc) e (by omega) (wd 16 (nI ck) 0) 10 (nI (10000 * bn + k)) 0
  exact ⟨hf, e, s.fr hf hz, p.em hz _ _ _ _ _ _ _, c.em (by omega) _, dd.emJ hm (by omega) hρ h34 hρ2 hT, l.q (emC_I (by omega)) (emS_o (by omega)), rfl, by rw [emS_f (by first | decide | simp [aop])]; exact q2, by omega, q4⟩
/-- the end of a try's first BLOCK -/
theorem CD.em2 (h : CD bn sm nd nu M S mk j rc cc a rv) {ρ : Nat} (hcf : 10000 * bn + rc < 20000) (hρ : j.2.2 ≤ ρ) (h34 : j.1 ≤ 34) (hρ2 : ρ < 90) (htl : j.2.1 ≠ []) (hT : j.2.1.length ≤ 10) :
    CD bn sm nd nu (emC (emC M sm cc (wd 19 0 0)) sm (cc + 1) (wd 16 0 0)) (emS S (10000 * bn + rc) rc 13 0 0) ((rc, cc, (31, 0, 0), (j.1, j.2.1, ρ)) :: mk) (j.1, j.2.1.tail, 0) (rc + 1) (cc + 2) a rv := by
  obtain ⟨pw, g, pi, J, c1, c2, c3, c4, c5, c6, c7⟩ := h
  have hcg := c1.em2 hcf
  have o : ∀ r, ¬ (39 ≤ r ∧ r ≤ 41) → mA (emS S (10000 * bn + rc) rc 13 0 0) r = mA S r := fun r hr => emS_o hr
  have of : mF (emS S (10000 * bn + rc) rc 13 0 0) 48 = mF S 48 := emS_f (by first | decide | simp [aop])
  have oL : ∀ q, q < cc → cL (emC (emC M sm cc (wd 19 0 0)) sm (cc + 1) (wd 16 0 0)) (sm + 10) q = cL M (sm + 10) q := fun q hq => by unfold emC; rw [cL_I, cL_w, if_neg (by omega), cL_I, cL_w, if_neg (by omega)]
  generalize emS S (10000 * bn + rc) rc 13 0 0 = S1 at *
  generalize emC (emC M sm cc (wd 19 0 0)) sm (cc + 1) (wd 16 0 0) = M1 at *
  have jn : ∀ i, i < rc → jem J rc 31 (j.1, j.2.1, ρ) i = J i := fun i hi => by unfold jem; rw [if_neg (by omega), if_neg (by omega)]
  have vo : ∀ y, VO bn S nd nu y → VO bn S1 nd nu y := fun y hy => by
    unfold VO SLs at hy ⊢
    rw [o 25 (by omega), o 27 (by omega), o 4 (by omega)]
    exact hy
  refine ⟨List.pairwise_cons.mpr ⟨fun m hm => MP_lt (c4 m hm), pw⟩, _, _, jem J rc 31 (j.1, j.2.1, ρ), hcg, W_em c2 (x := (31, 0, 0)) (by rw [c3]) (by rw [c3]) (by rw [c3]; exact hρ) ⟨⟨h34, hT, Nat.zero_le _⟩, fun q => absurd q (by first | decide | simp [aop]), ⟨by simp, by simp, by simp⟩, fun q => absurd q (by first | decide | simp [aop]), fun q => absurd q (by first | decide | simp [aop]), fun _ => htl, fun _ => ⟨hρ2, fun _ q => absurd rfl q⟩, fun q => absurd q (by first | decide | simp [aop])⟩, ?_, fun m hm => ?_, fun i hi h28 => ?_, fun i hi => ?_, c7.em (by first | decide | simp [aop]) (fun r hr => o r (by omega)) of⟩
  · unfold jem; rw [if_neg (by omega), if_pos rfl]; rfl
  · rcases List.mem_cons.mp hm with q | q
    · subst q
      exact ⟨fun _ => ⟨Nat.lt_succ_self _, if_pos rfl, if_pos rfl⟩, by show (if rc = rc + 1 then cc + 2 else pi rc) = cc; rw [if_neg (by omega)]; exact c1.1, fun e => absurd e (by simp)⟩
    · exact (c4 m q).em c1 (by rw [c3]) (by rw [c3]) oL
  · have h28' : 28 ≤ (if i = rc then (31, 0, 0) else g i).1 := h28
    by_cases q : i = rc
    · exact ⟨_, List.mem_cons_self .., q.symm, by simp⟩
    · rw [if_neg q] at h28'
      obtain ⟨m, w1, w2⟩ := c5 i (by omega) h28'
      exact ⟨m, List.mem_cons_of_mem _ w1, w2⟩
  · show VO bn S1 nd nu (if i = rc then (31, 0, 0) else g i)
    by_cases q : i = rc
    · rw [if_pos q]; exact VO.triv (by first | decide | simp [aop])
    · rw [if_neg q]; exact vo _ (c6 i (by omega))
theorem PS.em2 (h : PS z b bn sm size t nd nu nm iu ex K0 K M S mk j rc cc a (v + 2) rv dp) {ρ : Nat} (hρ : j.2.2 ≤ ρ) (h34 : j.1 ≤ 34) (hρ2 : ρ < 90) (htl : j.2.1 ≠ []) (hT : j.2.1.length ≤ 10) (N : Nat) :
    fT_X3_emit N (z + 7) 19 0 0 K M = some (.inl (nI cc, K, emC M sm cc (wd 19 0 0))) ∧ fT_X3_emit N (z + 7) 16 0 0 K (emC M sm cc (wd 19 0 0)) = some (.inl (nI (cc + 1), K, emC (emC M sm cc (wd 19 0 0)) sm (cc + 1) (wd 16 0 0))) ∧
    FR z b sm K0 M (emC (emC M sm cc (wd 19 0 0)) sm (cc + 1) (wd 16 0 0)) S (emS S (10000 * bn + rc) rc 13 0 0) ∧
    PS z b bn sm size t nd nu nm iu ex K0 K (emC (emC M sm cc (wd 19 0 0)) sm (cc + 1) (wd 16 0 0)) (emS S (10000 * bn + rc) rc 13 0 0) ((rc, cc, (31, 0, 0), (j.1, j.2.1, ρ)) :: mk) (j.1, j.2.1.tail, 0) (rc + 1) (cc + 2) a v rv dp := by
  have hr := h.room
  obtain ⟨e, s, p, c, dd, l, q1, q2, q3, q4⟩ := id h
  have hz := h.hz
  have l10 : le K (sm + 10) = 2 * t + 10 := e.2.2.2.2.2.2
  have f1 := FR.em (M := M) (S := S) (cc := cc) (rc := rc) e (by omega) (wd 19 0 0) 13 0 0
  have c1 := c.em (by omega) (wd 19 0 0)
  have f0 : FR z b sm K0 (emC M sm cc (wd 19 0 0)) (emC (emC M sm cc (wd 19 0 0)) sm (cc + 1) (wd 16 0 0)) S S := by
    have g := FR.em (M := emC M sm cc (wd 19 0 0)) (S := S) (cc := cc + 1) (rc := rc) e (by omega) (wd 16 0 0) 0 0 0
    exact ⟨g.1, g.2.1, g.2.2.1, g.2.2.2.1, g.2.2.2.2.1, fun _ _ _ _ _ _ _ => rfl, fun _ _ _ _ => rfl, rfl, g.2.2.2.2.2.2.2.2.1, AgO.rf _ _⟩
  have f2 : FR z b sm K0 M (emC (emC M sm cc (wd 19 0 0)) sm (cc + 1) (wd 16 0 0)) S (emS S (10000 * bn + rc) rc 13 0 0) := by
    have g : FR z b sm K0 (emC M sm cc (wd 19 0 0)) (emC (emC M sm cc (wd 19 0 0)) sm (cc + 1) (wd 16 0 0)) (emS S (10000 * bn + rc) rc 13 0 0) (emS S (10000 * bn + rc) rc 13 0 0) := ⟨f0.1, f0.2.1, f0.2.2.1, f0.2.2.2.1, f0.2.2.2.2.1, fun _ _ _ _ _ _ _ => rfl, fun _ _ _ _ => rfl, rfl, f0.2.2.2.2.2.2.2.2.1, AgO.rf _ _⟩
    exact f1.tr g
  have p1 := p.em (sm := sm) hz (10000 * bn + rc) rc cc (wd 19 0 0) 13 0 0
  refine ⟨h.wC N _ _ _, em3 c1 (by omega) N _ _ _, f2, e, s.fr f2 hz, ?_, c1.em (by omega) _, dd.em2 (by omega) hρ h34 hρ2 htl hT, l.q (by rw [emC_I (by omega), emC_I (by omega)]) (emS_o (by omega)), rfl, by rw [emS_f (by first | decide | simp [aop])]; exact q2, by omega, q4⟩
  obtain ⟨h1, h2, h3, h4, h5, h6, h7, h8⟩ := p1
  have eI : ∀ q, q ≠ sm → cI (emC (emC M sm cc (wd 19 0 0)) sm (cc + 1) (wd 16 0 0)) q = cI (emC M sm cc (wd 19 0 0)) q := fun q hq => emC_I hq
  have eL : ∀ q, q ≠ sm + 10 → cL (emC (emC M sm cc (wd 19 0 0)) sm (cc + 1) (wd 16 0 0)) q = cL (emC M sm cc (wd 19 0 0)) q := fun q hq => emC_L hq
  refine ⟨h1, ?_, h3, h4, h5, by rw [eI (z + 7) (by omega)]; exact h6, by rw [eI (z + 7) (by omega), eI (z + 3) (by omega)]; exact h7, h8⟩
  unfold TKS TK1 at h2 ⊢
  rw [eI (z + 1) (by omega), eI (z + 3) (by omega), eI (z + 4) (by omega), eL (z + 5) (by omega)]
  exact h2
/-- TRIED aimed -/
theorem CD.aimT {l1 l2 : List Mk} {k ck : Nat} {jk : Jt} (h : CD bn sm nd nu M S (l1 ++ (k, ck, (31, 0, 0), jk) :: l2) j rc cc a rv) (h1 : j.1 = jk.1) (h2 : j.2.1 = jk.2.1.tail) :
    k < rc ∧ ck + 1 < cc ∧ CD bn sm nd nu (aimC M sm cc (ck + 1)) (pA S 40 (10000 * bn + k) (nI (10000 * bn + rc))) (l1 ++ l2) (j.1, j.2.1, max j.2.2 (jk.2.2 + 1)) rc cc a rv := by
  obtain ⟨pw, g, pi, J, c1, c2, c3, c4, c5, c6, c7⟩ := h
  obtain ⟨pw2, un⟩ := mk_uq (by simp) pw
  obtain ⟨⟨w1, w2, w4⟩, w3⟩ : (k < rc ∧ g k = (31, 0, 0) ∧ J k = jk) ∧ pi k = ck := ⟨(c4 (k, ck, (31, 0, 0), jk) (List.mem_append.mpr (Or.inr (List.mem_cons_self ..)))).1 (by simp), (c4 (k, ck, (31, 0, 0), jk) (List.mem_append.mpr (Or.inr (List.mem_cons_self ..)))).2.1⟩
  have w1' : k < rc := w1
  have w2' : g k = (31, 0, 0) := w2
  have w3' : pi k = ck := w3
  have w4' : J k = jk := w4
  have sub : ∀ m, m ∈ l1 ++ l2 → m ∈ l1 ++ (k, ck, (31, 0, 0), jk) :: l2 := fun m hm => by
    rcases List.mem_append.mp hm with q | q
    · exact List.mem_append.mpr (Or.inl q)
    · exact List.mem_append.mpr (Or.inr (List.mem_cons_of_mem _ q))
  have hcg := c1.aimT w1' (by rw [w2'])
  have lt : pi k + tw (g k) ≤ cc := by rw [← c1.1]; exact c1.mono rc (Nat.le_refl _) k w1'
  have t2 : tw (g k) = 2 := by rw [w2']; rfl
  rw [w3'] at hcg lt
  have o40 : ∀ r, r ≠ 40 → mA (pA S 40 (10000 * bn + k) (nI (10000 * bn + rc))) r = mA S r := fun r hr => mA_Ane _ _ _ hr
  have og : (fun i => if i = k then (13, rc, 0) else g i) = gai g rc k := by
    funext i
    unfold gai aop
    rw [w2']
    rfl
  rw [og] at hcg
  have gn : ∀ i, i ≠ k → gai g rc k i = g i := fun i hi => if_neg hi
  refine ⟨w1', by omega, pw2, gai g rc k, pi, jai J rc k, hcg, W_aim c2 w1' (by rw [w2']; decide) (by rw [w2', w4', c3]; exact h1) (by rw [w2', w4', c3, if_pos rfl]; exact h2), ?_, fun m hm => ?_, fun i hi h28 => ?_, fun i hi => ?_, ?_⟩
  · unfold jai
    rw [if_pos rfl, c3, w4']
  · exact (c4 m (sub m hm)).aim c1 w1' (by rw [w2']; decide) (p := ck + 1) (by rw [w3', t2]; omega) (un m hm) (fun q hq => by unfold aimC; rw [cL_w, if_neg (fun y => hq y.2)])
  · by_cases e : i = k
    · subst e
      have : (gai g rc i i).1 = aop (g i).1 := by unfold gai; rw [if_pos rfl]
      rw [this, w2'] at h28
      exact absurd h28 (by first | decide | simp [aop])
    · rw [gn _ e] at h28
      obtain ⟨m, x1, x2⟩ := c5 i hi h28
      refine ⟨m, ?_, x2⟩
      rcases List.mem_append.mp x1 with q | q
      · exact List.mem_append.mpr (Or.inl q)
      · rcases List.mem_cons.mp q with q | q
        · subst q; exact absurd x2.1.symm e
        · exact List.mem_append.mpr (Or.inr q)
  · have vo : ∀ y, VO bn S nd nu y → VO bn (pA S 40 (10000 * bn + k) (nI (10000 * bn + rc))) nd nu y := fun y hy => by
      unfold VO SLs at hy ⊢
      rw [o40 25 (by first | decide | simp [aop]), o40 27 (by first | decide | simp [aop]), o40 4 (by first | decide | simp [aop])]
      exact hy
    by_cases e : i = k
    · subst e
      have : gai g rc i i = (aop (g i).1, rc, 0) := by unfold gai; rw [if_pos rfl]
      rw [this, w2']
      exact VO.triv (by first | decide | simp [aop])
    · rw [gn _ e]; exact vo _ (c6 i hi)
  · have e : gai g rc k = (fun i => if i = k then (aop 31, rc, 0) else g i) := by funext i; unfold gai; rw [w2']
    rw [e]
    exact c7.aim (by rw [w2']; decide) (by first | decide | simp [aop]) (fun r hr => o40 r (by omega)) rfl
theorem PS.aimT {l1 l2 : List Mk} {k ck : Nat} {jk : Jt} (h : PS z b bn sm size t nd nu nm iu ex K0 K M S (l1 ++ (k, ck, (31, 0, 0), jk) :: l2) j rc cc a v rv dp) (h1 : j.1 = jk.1) (h2 : j.2.1 = jk.2.1.tail) (N : Nat) :
    fC_X5_aimHere N K sm (nI (ck + 1)) M = some (aimC M sm cc (ck + 1)) ∧ fM_here N (nI k) S = some (pA S 40 (10000 * bn + k) (nI (10000 * bn + rc))) ∧ FR z b sm K0 M (aimC M sm cc (ck + 1)) S (pA S 40 (10000 * bn + k) (nI (10000 * bn + rc))) ∧
    PS z b bn sm size t nd nu nm iu ex K0 K (aimC M sm cc (ck + 1)) (pA S 40 (10000 * bn + k) (nI (10000 * bn + rc))) (l1 ++ l2) (j.1, j.2.1, max j.2.2 (jk.2.2 + 1)) rc cc a v rv dp := by
  have hr := h.room
  obtain ⟨e, s, p, c, dd, l, q1, q2, q3, q4⟩ := id h
  have hz := h.hz
  obtain ⟨x1, x2, x3⟩ := dd.aimT h1 h2
  have hf := FR.aim (M := M) (S := S) (cc := cc) e (ck + 1) (k := k) (by omega) (nI (10000 * bn + rc))
  exact ⟨aim_ok c N x2, here_ok s.2.2.2.1 q1 (by omega) N, hf, e, s.fr hf hz, p.aim hz _ _ _ _, c.aim (ck + 1), x3, l.q rfl (mA_Ane _ _ _ (by first | decide | simp [aop])), q1, q2, q3, q4⟩
end JUMPS
