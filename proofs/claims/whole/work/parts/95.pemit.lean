/-! instructions put by both while statements are read -/
def TCx (mk : List Mk) (tl : List Nat) (r : Nat) : Prop := tl.length ≤ 10 ∧ (tl = [] ∨ ∃ b cb tl0 rb, (b, cb, (30, 0, 0), ((0 : Nat), tl0, rb)) ∈ mk ∧ tl = b :: tl0 ∧ r ≤ rb)
theorem TCx.le {mk : List Mk} {tl : List Nat} {r r' : Nat} (h : TCx mk tl r) (hr : r' ≤ r) : TCx mk tl r' := by
  refine ⟨h.1, ?_⟩
  rcases h.2 with q | ⟨b, cb, tl0, rb, q1, q2, q3⟩
  · exact Or.inl q
  · exact Or.inr ⟨b, cb, tl0, rb, q1, q2, by omega⟩
theorem TCx.cons {mk : List Mk} {tl : List Nat} {r : Nat} (h : TCx mk tl r) (m : Mk) : TCx (m :: mk) tl r := by
  refine ⟨h.1, ?_⟩
  rcases h.2 with q | ⟨b, cb, tl0, rb, q1, q2, q3⟩
  · exact Or.inl q
  · exact Or.inr ⟨b, cb, tl0, rb, List.mem_cons_of_mem _ q1, q2, q3⟩
def cw (bn : Nat) (S : Ms) (x : Nat × Nat × Nat) : Int64 := cwd bn S (fun _ => 0) x
theorem cw_eq (bn : Nat) (S : Ms) (pi : Nat → Nat) {x : Nat × Nat × Nat} (h : x.1 < 10 ∨ 13 < x.1) : cwd bn S pi x = cw bn S x := cwd_ag rfl rfl (fun h1 h2 => by omega)
section PEMIT
variable {z b bn sm size t nd nu nm iu : Nat} {ex : Nat → Nat → Prop} {K0 K : Ka} {M M' : Cm} {S S' : Ms} {mk : List Mk} {j : Jt} {rc cc a v rv dp : Nat}
theorem raise_of {g : Nat → Nat × Nat × Nat} {J : Nat → Jt} {pi : Nat → Nat} (c4 : ∀ m, m ∈ mk → MC sm M g pi J rc m) {tl : List Nat} {ρ : Nat} (h : TCx mk tl (ρ + 1)) : ∀ b tl', tl = b :: tl' → b < rc ∧ ((g b).1 = 12 ∨ (g b).1 = 30) ∧ (J b).1 = 0 ∧ (J b).2.1 = tl' ∧ ρ < (J b).2.2 := by
  intro b tl' e
  rcases h.2 with q | ⟨b', cb, tl0, rb, q1, q2, q3⟩
  · rw [q] at e; cases e
  · rw [q2] at e
    cases e
    obtain ⟨w1, w2, w4⟩ := (c4 _ q1).1 (by simp)
    have w2' : g b = (30, 0, 0) := w2
    have w4' : J b = (0, tl', rb) := w4
    rw [w2', w4']
    exact ⟨w1, Or.inr rfl, rfl, rfl, by show ρ < rb; omega⟩
/-- what is asked of an instruction, its rank r -/
def EMC (bn : Nat) (S : Ms) (nd nu : Nat) (mk : List Mk) (j : Jt) (x : Nat × Nat × Nat) (ρ : Nat) : Prop := (j.2.2 ≤ ρ ∧ x.1 ≠ 99) ∧ VO bn S nd nu x ∧ (j.1 ≤ 34 ∧ pp x.1 ≤ j.1) ∧ (x.1 = 0 → j.1 = 0 ∧ j.2.1 = []) ∧ (x.1 = 30 → j.1 = 0) ∧ (x.1 = 31 → j.2.1 ≠ []) ∧ (2 ≤ x.1 → ρ < 90) ∧ (x.1 ≤ 1 → ρ = 90) ∧ TCx mk j.2.1 (if x.1 ≤ 1 then 0 else ρ + 1)
theorem EMC.em1 {g : Nat → Nat × Nat × Nat} {J : Nat → Jt} {pi : Nat → Nat} {x : Nat × Nat × Nat} {ρ : Nat} (h : EMC bn S nd nu mk j x ρ) (c4 : ∀ m, m ∈ mk → MC sm M g pi J rc m) (hx : x.1 < 10 ∨ 13 < x.1) : em1 g J rc x (j.1, j.2.1, ρ) := by
  obtain ⟨h1, h2, h3, h4, h5, h6, h7, h8, h9⟩ := h
  refine ⟨⟨h3.1, h9.1, h3.2⟩, h4, ⟨by omega, by omega, by omega⟩, fun q => by omega, h5, h6, fun q => ⟨h7 q, fun _ _ => ?_⟩, h8⟩
  rw [if_neg (by omega)] at h9
  exact raise_of c4 h9
theorem LT.em {g : Nat → Nat × Nat × Nat} {x : Nat × Nat × Nat} (h : LT g S rc a rv) (hx : ¬ (25 ≤ x.1 ∧ x.1 ≤ 27)) (hA : ∀ k, 43 ≤ k ∧ k ≤ 47 → mA S' k = mA S k) (h48 : mF S' 48 = mF S 48) : LT (fun i => if i = rc then x else g i) S' (rc + 1) a rv := by
  obtain ⟨nl, e, l1, l2, l3, l4⟩ := h
  refine ⟨nl, e, by rw [h48]; exact l1, fun k hk => ?_, l3, fun c hc h1 h2 => ?_⟩
  · obtain ⟨w1, w2, w3, w4, w5, w6⟩ := l2 k hk
    refine ⟨w1, w2, w3, by omega, ?_, ?_⟩
    · show (if (e k).2.1 = rc then x else g (e k).2.1) = _
      rw [if_neg (by omega)]; exact w5
    · unfold R5 at w6 ⊢; rw [hA 43 (by omega), hA 44 (by omega), hA 45 (by omega), hA 46 (by omega), hA 47 (by omega)]; exact w6
  · by_cases q : c = rc
    · subst q
      simp only [↓reduceIte] at h1 h2
      exact absurd ⟨h1, h2⟩ hx
    · simp only [if_neg q] at h1 h2
      exact l4 c (by omega) h1 h2
theorem emS_o {i r : Nat} {x1 x2 x3 : Int32} {k : Nat} (h : ¬ (39 ≤ k ∧ k ≤ 41)) : mA (emS S i r x1 x2 x3) k = mA S k := by
  unfold emS
  rw [mA_F, mA_Ane _ _ _ (by omega), mA_Ane _ _ _ (by omega), mA_Ane _ _ _ (by omega)]
theorem emS_f {i r : Nat} {x1 x2 x3 : Int32} {k : Nat} (h : k ≠ 38) : mF (emS S i r x1 x2 x3) k = mF S k := by
  unfold emS
  rw [mF_F, if_neg h]
  rfl
theorem emC_I {c : Nat} {x : Int64} {k : Nat} (h : k ≠ sm) : cI (emC M sm c x) k = cI M k := by
  unfold emC
  rw [cI_wI_ne _ _ _ h]
  rfl
theorem emC_L {c : Nat} {x : Int64} {k : Nat} (h : k ≠ sm + 10) : cL (emC M sm c x) k = cL M k := by
  unfold emC
  rw [cL_I, cL_wL_ne _ _ _ h]
theorem MP_lt {g : Nat → Nat × Nat × Nat} {pi : Nat → Nat} {J : Nat → Jt} {m : Mk} {c : Nat} {x : Nat × Nat × Nat} {y : Jt} (h : MC sm M g pi J rc m) : MP (rc, c, x, y) m := by
  by_cases e : m.2.2.1.1 = 99
  · exact Or.inr (Or.inl e)
  · exact Or.inr (Or.inr (h.1 e).1)
theorem MC.em {g : Nat → Nat × Nat × Nat} {pi : Nat → Nat} {J : Nat → Jt} {m : Mk} {M1 : Cm} {x : Nat × Nat × Nat} {o cc' : Nat} {jj : Jt} (h : MC sm M g pi J rc m) (hg : CG bn (10000 * bn) sm M S g pi rc cc) (h1 : (J rc).1 = jj.1) (h2 : (J rc).2.1 = jj.2.1) (hL : ∀ q, q < cc → cL M1 (sm + 10) q = cL M (sm + 10) q) : MC sm M1 (fun i => if i = rc then x else g i) (fun i => if i = rc + 1 then cc' else pi i) (jem J rc o jj) (rc + 1) m := by
  obtain ⟨a1, a2, a3⟩ := h
  have jn : ∀ i, i < rc → jem J rc o jj i = J i := fun i hi => by unfold jem; rw [if_neg (by omega), if_neg (by omega)]
  have jr : jem J rc o jj rc = jj := by unfold jem; rw [if_pos rfl]
  have le : m.1 ≤ rc := by
    by_cases e : m.2.2.1.1 = 99
    · exact (a3 e).1
    · have := (a1 e).1; omega
  refine ⟨fun e => ?_, ?_, fun e => ?_⟩
  · obtain ⟨b1, b2, b3⟩ := a1 e
    exact ⟨by omega, by show (if m.1 = rc then x else g m.1) = _; rw [if_neg (by omega)]; exact b2, by rw [jn _ b1]; exact b3⟩
  · show (if m.1 = rc + 1 then cc' else pi m.1) = _
    rw [if_neg (by omega)]; exact a2
  · obtain ⟨b1, b2, b3, b4, b5, b6, b7⟩ := a3 e
    have hc : m.2.1 ≤ cc := by
      rw [← a2]
      by_cases q : m.1 = rc
      · rw [q, hg.1]; exact Nat.le_refl _
      · have := hg.mono rc (Nat.le_refl _) m.1 (by omega); rw [hg.1] at this; omega
    have hj : (jem J rc o jj m.1).1 = (J m.1).1 ∧ (jem J rc o jj m.1).2.1 = (J m.1).2.1 := by
      by_cases q : m.1 = rc
      · rw [q, jr]; exact ⟨h1.symm, h2.symm⟩
      · rw [jn _ (by omega)]; exact ⟨rfl, rfl⟩
    refine ⟨by omega, by rw [hj.1]; exact b2, by rw [hj.2]; exact b3, b4, fun k hk => ?_, fun k hk => ?_, fun w => ?_⟩
    · show (if k = rc + 1 then cc' else pi k) + tw (if k = rc then x else g k) + _ ≤ _
      rw [if_neg (by omega), if_neg (by omega)]; exact b5 k hk
    · rw [hL _ (by omega)]; exact b6 k hk
    · rw [hL _ (by omega)]; exact b7 w
theorem CD.em (h : CD bn sm nd nu M S mk j rc cc a rv) {x : Nat × Nat × Nat} {ρ : Nat} (hx : x.1 < 10 ∨ 13 < x.1) (h31 : x.1 ≠ 31) (hl : ¬ (25 ≤ x.1 ∧ x.1 ≤ 27)) (hcf : 10000 * bn + rc < 20000) (he : EMC bn S nd nu mk j x ρ) :
    CD bn sm nd nu (emC M sm cc (cw bn S x)) (emS S (10000 * bn + rc) rc (rfd (10000 * bn) x).1 (rfd (10000 * bn) x).2.1 (rfd (10000 * bn) x).2.2) ((rc, cc, x, (j.1, j.2.1, ρ)) :: mk) (nxt rc x.1 (j.1, j.2.1, ρ)) (rc + 1) (cc + 1) a rv := by
  obtain ⟨pw, g, pi, J, c1, c2, c3, c4, c5, c6, c7⟩ := h
  have hcg := c1.em x (by omega) h31 (fun h1 h2 => by omega) hcf
  rw [cw_eq bn S pi hx] at hcg
  have o : ∀ k, ¬ (39 ≤ k ∧ k ≤ 41) → mA (emS S (10000 * bn + rc) rc (rfd (10000 * bn) x).1 (rfd (10000 * bn) x).2.1 (rfd (10000 * bn) x).2.2) k = mA S k := fun k hk => emS_o hk
  have of : ∀ k, k ≠ 38 → mF (emS S (10000 * bn + rc) rc (rfd (10000 * bn) x).1 (rfd (10000 * bn) x).2.1 (rfd (10000 * bn) x).2.2) k = mF S k := fun k hk => emS_f hk
  generalize emS S (10000 * bn + rc) rc (rfd (10000 * bn) x).1 (rfd (10000 * bn) x).2.1 (rfd (10000 * bn) x).2.2 = S1 at *
  have oL : ∀ q, q < cc → cL (emC M sm cc (cw bn S x)) (sm + 10) q = cL M (sm + 10) q := fun q hq => by unfold emC; rw [cL_I, cL_w, if_neg (by omega)]
  generalize emC M sm cc (cw bn S x) = M1 at *
  have hj : J rc = j := c3
  have hL : ∀ q, q < cc → cL M1 (sm + 10) q = cL M (sm + 10) q := fun q hq => oL q hq
  have jn : ∀ i, i < rc → jem J rc x.1 (j.1, j.2.1, ρ) i = J i := fun i hi => by unfold jem; rw [if_neg (by omega), if_neg (by omega)]
  have gn : ∀ i, i < rc → (if i = rc then x else g i) = g i := fun i hi => if_neg (by omega)
  have vo : ∀ y, VO bn S nd nu y → VO bn S1 nd nu y := fun y hy => by
    unfold VO SLs at hy ⊢
    rw [o 25 (by omega), o 27 (by omega), o 4 (by omega)]
    exact hy
  refine ⟨List.pairwise_cons.mpr ⟨fun m hm => MP_lt (c4 m hm), pw⟩, _, _, jem J rc x.1 (j.1, j.2.1, ρ), hcg, W_em c2 (by rw [hj]) (by rw [hj]) (by rw [hj]; exact he.1.1) (he.em1 c4 hx), ?_, fun m hm => ?_, fun i hi h28 => ?_, fun i hi => ?_, c7.em hl (fun k hk => o k (by omega)) (of 48 (by decide))⟩
  · unfold jem; rw [if_neg (by omega), if_pos rfl]
  · rcases List.mem_cons.mp hm with q | q
    · subst q
      exact ⟨fun _ => ⟨Nat.lt_succ_self _, if_pos rfl, if_pos rfl⟩, by show (if rc = rc + 1 then cc + 1 else pi rc) = cc; rw [if_neg (by omega)]; exact c1.1, fun e => absurd e he.1.2⟩
    · exact (c4 m q).em c1 (by rw [hj]) (by rw [hj]) hL
  · by_cases q : i = rc
    · exact ⟨_, List.mem_cons_self .., q.symm, he.1.2⟩
    · have h28' : 28 ≤ (if i = rc then x else g i).1 := h28
      rw [if_neg q] at h28'
      obtain ⟨m, w1, w2⟩ := c5 i (by omega) h28'
      exact ⟨m, List.mem_cons_of_mem _ w1, w2⟩
  · show VO bn S1 nd nu (if i = rc then x else g i)
    by_cases q : i = rc
    · rw [if_pos q]; exact vo _ he.2.1
    · rw [if_neg q]; exact vo _ (c6 i (by omega))
theorem FR.em (e : EVP z b bn sm t K0 K) (hrc : rc < 10000) (x : Int64) (x1 x2 x3 : Int32) : FR z b sm K0 M (emC M sm cc x) S (emS S (10000 * bn + rc) rc x1 x2 x3) := by
  obtain ⟨e1, e2, e3, e4, e5, -⟩ := e
  have nb : ∀ k, bw k = 10000 → ¬ OB b k (10000 * bn + rc) := fun k hk => ob_n e1 e2 hk (by decide) (by omega) (by omega)
  refine ⟨fun a h1 h2 h3 => emC_I h2, fun a h1 => emC_L h1, rfl, fun s h1 h2 => by rw [emC_I (by omega)], fun s h1 => ?_, fun k h1 h2 h3 h4 h5 h6 => emS_f h2, fun k h1 h2 h3 => emS_o (by omega), rfl, ⟨fun a h1 h2 => ⟨emC_I (by omega), emC_L (by omega)⟩, fun _ _ _ _ => rfl⟩, ?_⟩
  · unfold emC
    rw [cI_w, if_neg (fun q => h1 q.2)]
    rfl
  · unfold emS
    exact (((AgO.pA (nb 39 rfl) _).tr (AgO.pA (nb 40 rfl) _)).tr (AgO.pA (nb 41 rfl) _)).tr (AgO.pF (by unfold OF; omega) _)
theorem PT.em (h : PT z K M S size t a) (hz : z + 174 ≤ sm) (i r c : Nat) (x : Int64) (x1 x2 x3 : Int32) : PT z K (emC M sm c x) (emS S i r x1 x2 x3) size t a := by
  obtain ⟨h1, h2, h3, h4, h5, h6, h7, h8⟩ := h
  refine ⟨h1, ?_, h3, by rw [emS_f (by decide)]; exact h4, by rw [emS_f (by decide)]; exact h5, by rw [emC_I (by omega)]; exact h6, by rw [emC_I (by omega), emC_I (by omega)]; exact h7, h8⟩
  unfold TKS TK1 at h2 ⊢
  rw [emS_o (by omega), emS_o (by omega), emC_I (by omega), emC_I (by omega), emC_I (by omega), emC_L (by omega)]
  exact h2
theorem PS.room (h : PS z b bn sm size t nd nu nm iu ex K0 K M S mk j rc cc a v rv dp) : rc ≤ cc ∧ cc + v ≤ 8000 ∧ cc + v ≤ 2 * t ∧ 10000 * bn + rc < 20000 ∧ rc < 10000 ∧ cc < le K (sm + 10) := by
  obtain ⟨e, s, p, c, dd, l, q1, q2, q3, q4⟩ := h
  have := dd.le
  have h1 := p.2.1.1
  have h2 := p.2.1.2.1
  have h3 := p.2.2.1
  have h4 : bn ≤ 1 := by have := e.2.1; omega
  have h5 := e.2.2.2.2.2.2
  omega
/-- one instruction more with both -/
theorem PS.em (h : PS z b bn sm size t nd nu nm iu ex K0 K M S mk j rc cc a (v + 1) rv dp) {x : Nat × Nat × Nat} {ρ : Nat} (hx : x.1 < 10 ∨ 13 < x.1) (h31 : x.1 ≠ 31) (hl : ¬ (25 ≤ x.1 ∧ x.1 ≤ 27)) (he : EMC bn S nd nu mk j x ρ) :
    PS z b bn sm size t nd nu nm iu ex K0 K (emC M sm cc (cw bn S x)) (emS S (10000 * bn + rc) rc (rfd (10000 * bn) x).1 (rfd (10000 * bn) x).2.1 (rfd (10000 * bn) x).2.2) ((rc, cc, x, (j.1, j.2.1, ρ)) :: mk) (nxt rc x.1 (j.1, j.2.1, ρ)) (rc + 1) (cc + 1) a v rv dp ∧
    FR z b sm K0 M (emC M sm cc (cw bn S x)) S (emS S (10000 * bn + rc) rc (rfd (10000 * bn) x).1 (rfd (10000 * bn) x).2.1 (rfd (10000 * bn) x).2.2) := by
  have hr := h.room
  obtain ⟨e, s, p, c, dd, l, q1, q2, q3, q4⟩ := h
  have hz : z + 174 ≤ sm := by have := e.2.2.1; have := e.2.2.2.1; omega
  have hf := FR.em (M := M) (S := S) (cc := cc) (rc := rc) e (by omega) (cw bn S x) (rfd (10000 * bn) x).1 (rfd (10000 * bn) x).2.1 (rfd (10000 * bn) x).2.2
  exact ⟨⟨e, s.fr hf hz, p.em hz _ _ _ _ _ _ _, c.em (by omega) _, dd.em hx h31 hl (by omega) he, l.q (emC_I (by omega)) (emS_o (by omega)), rfl, by rw [emS_f (by decide)]; exact q2, by omega, q4⟩, hf⟩
theorem PS.wC (h : PS z b bn sm size t nd nu nm iu ex K0 K M S mk j rc cc a v rv dp) (N : Nat) (w f s : Int32) : fT_X3_emit N (z + 7) w f s K M = some (.inl (nI cc, K, emC M sm cc (wd w f s))) := em3 h.2.2.2.1 h.room.2.2.2.2.2 N w f s
theorem PS.wS (h : PS z b bn sm size t nd nu nm iu ex K0 K M S mk j rc cc a v rv dp) (N : Nat) (x1 x2 x3 : Int32) : fM_emit N x1 x2 x3 S = some (nI rc, emS S (10000 * bn + rc) rc x1 x2 x3) := em_ok h.2.1.2.2.2.1 h.2.2.2.2.2.2.1 h.room.2.2.2.1 N x1 x2 x3
theorem PS.drop {m : Mk} (h : PS z b bn sm size t nd nu nm iu ex K0 K M S (m :: mk) j rc cc a v rv dp) (hm : m.2.2.1.1 < 28) : PS z b bn sm size t nd nu nm iu ex K0 K M S mk j rc cc a v rv dp := by
  obtain ⟨e, s, p, c, dd, q⟩ := h
  exact ⟨e, s, p, c, dd.drop hm, q⟩
theorem PS.less {v' : Nat} (h : PS z b bn sm size t nd nu nm iu ex K0 K M S mk j rc cc a v rv dp) (hv : v' ≤ v) : PS z b bn sm size t nd nu nm iu ex K0 K M S mk j rc cc a v' rv dp := by
  obtain ⟨e, s, p, c, dd, l, q1, q2, q3, q4⟩ := h
  exact ⟨e, s, p, c, dd, l, q1, q2, by omega, q4⟩
end PEMIT
