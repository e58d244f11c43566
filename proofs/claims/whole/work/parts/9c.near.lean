def NearY (z b bn sm size t nd nu nm iu : Nat) (ex : Nat → Nat → Prop) (K0 K : Ka) (M : Cm) (S : Ms) (mk : List Mk) (j : Jt) (rc cc a v rv dp N : Nat) (ts : Int32) : Prop := ∃ w s k M' S', w < nu ∧ SLs S bn w s k ∧ (k = 0 ∨ k = 1) ∧ (ts = 1 → k = 0) ∧ fT_X3_readPlace N (z + 7) ts K M = some (.inl (cw bn S (if ts = 1 then 5 else if k = 1 then 3 else 4, w, s), K, M')) ∧ fM_nearName N ts S = some S' ∧ mF S' 51 = nI w ∧ mF S' 52 = nI s ∧ FR z b sm K0 M M' S S' ∧ PS z b bn sm size t nd nu nm iu ex K0 K M' S' mk j rc cc (a + 1) (v + 2) rv dp
section NEAR
variable {z b bn sm size t nd nu nm iu : Nat} {ex : Nat → Nat → Prop} {K0 K : Ka} {M M' : Cm} {S S' : Ms} {mk : List Mk} {j : Jt} {rc cc a v rv dp : Nat}
theorem k_point (h : PT z K M S size t a) (hl : a < t) (N : Nat) : (cI M (z + 3) (a + 1) = 46 ∧ a + 1 < t ∧ fM_isPoint N S = some (1, S)) ∨ (cI M (z + 3) (a + 1) ≠ 46 ∧ fM_isPoint N S = some (0, S)) := by
  obtain ⟨hLY, ⟨q1, q2, q3, q4, q5, q6, q7, q8⟩, h3, h4, h5, h6, h7, h8⟩ := h
  have neq : ∀ m, m < 2 ^ 31 → m ≠ 46 → nI m ≠ 46 := fun m hm hne q => hne ((nI_eq (b := 46) hm (by omega)).mp q)
  unfold fM_isPoint bM_isPoint_44 bM_isPoint_45
  rw [if_pos h5, h4, nI_1, ck_n (show a + 1 < 4002 by omega) (by decide), nI_clamp (by omega), ck_n (show a + 1 < 4002 by omega) (by decide)]
  by_cases e : a + 1 = t
  · rw [e, q4, q6, if_neg (by decide)]
    exact Or.inr ⟨neq 0 (by decide) (by omega), rfl⟩
  · obtain ⟨-, -, p⟩ := q8 (a + 1) (by omega)
    rcases p with ⟨s1, s2, s3⟩ | ⟨s1, s2, -⟩ | ⟨s1, d, d1, d2, d3, d4, d5⟩ | ⟨s1, s2⟩
    · right
      rw [s1, if_neg (by decide)]
      refine ⟨?_, rfl⟩
      rcases s3 with ⟨r, r1, r2, r3⟩ | ⟨-, r3⟩
      · rw [r3]; exact neq _ (by omega) (by omega)
      · rw [r3]; exact neq 2 (by decide) (by omega)
    · right
      rw [s1, s2, if_neg (by decide)]
      exact ⟨neq 3 (by decide) (by omega), rfl⟩
    · rw [s1, if_pos rfl, d4, d5, show (46 : Int64) = (nI 46).toInt64 from rfl]
      by_cases ed : d = 46
      · subst ed
        left
        rw [if_pos (lgc0.mpr rfl)]
        exact ⟨rfl, by omega, rfl⟩
      · right
        rw [if_neg (fun q => ed (nL_inj (by omega) (by omega) (lgc0.mp q)))]
        exact ⟨neq d (by omega) ed, rfl⟩
    · right
      rw [s1, s2, if_neg (by decide)]
      exact ⟨neq 1 (by decide) (by omega), rfl⟩
theorem PS.nam (h : PS z b bn sm size t nd nu nm iu ex K0 K M S mk j rc cc a v rv dp) (N : Nat) (hN : 30 < N) (hk : cI M (z + 3) a = 2) : a < t ∧ fM_isName N S = some (1, S) ∧ cL M (z + 5) a = mL S 6 a := by
  rcases k_name h.2.2.1 N hN with ⟨-, m, v, -⟩ | ⟨e, -⟩
  · exact ⟨h.2.2.1.lt (by rw [hk]; decide), m, v⟩
  · exact absurd hk e
/-- a name alone, to be read or set -/
theorem near_ok (h : PS z b bn sm size t nd nu nm iu ex K0 K M S mk j rc cc a v rv dp) (hk : cI M (z + 3) a = 2) (hp : cI M (z + 3) (a + 1) ≠ 46) {ts : Int32} (hts : ts = 0 ∨ ts = 1) (N : Nat) (hN : 30 < N) :
    NearY z b bn sm size t nd nu nm iu ex K0 K M S mk j rc cc a v rv dp N ts ∨
    (∃ f S', FLT f ∧ fT_X3_readPlace N (z + 7) ts K M = some (.inr (K, wI M (z + 7) 5 (nI f))) ∧ fM_nearName N ts S = some S' ∧ DDs b bn rc S f S') := by
  obtain ⟨hl, hn, hv⟩ := h.nam N hN hk
  have ht := h.t4
  have h4 : cI M (z + 7) 4 = nI iu - 1 := h.2.1.2.2.2.2.2.1
  have h49 : mF S 49 = nI iu - 1 := h.2.1.2.2.2.2.1
  have h12 : mF S 12 = nI bn := h.2.1.1.2.1
  have b2 : bn < 2 := by have := h.1.2.1; omega
  have n24 : nu ≤ 24 := h.2.1.1.2.2.2.2.2.1
  have cls : fT_X3_readPlace N (z + 7) ts K M = ((fC_X5_find N K sm (nI iu - 1) (mL S 6 a) M).bind fun o68 => if 0 ≤ o68.1 then ((bT_X3_readPlace_81 N) (z + 7) ts (nI a) o68.1 K o68.2) else (tb (fT_X3_refuse N (z + 7) 2 K o68.2) fun o78 => (bT_X3_readPlace_81 N) (z + 7) ts (nI a) o68.1 o78.1 o78.2)) := by
    unfold fT_X3_readPlace
    rw [gd_k h.k7, nn_s h.r70, gd_k h.k1, h.at, nI_1, ka_ok h.2.2.1 N (show a + 1 ≤ t by omega), bs]
    dsimp only
    rw [if_neg hp, nn_s h.r70, nn_s h.r71, gd_k h.k1, va_ok h.2.2.1 N (show a ≤ t by omega), bs]
    dsimp only
    rw [gd_k h.ks, h4, hv]
  have ref : ¬ nI iu - 1 < 0 → fM_nearName N ts S = ((fM_looks N (nI iu - 1) (mL S 6 a) S).bind fun o21 => if o21.1 = 0 then ((bM_nearName_31 N) ts o21.2) else ((bM_nearName_32 N) ts 1 o21.2)) := fun q => by
    unfold fM_nearName
    rw [h49, if_neg q, h.m7, ck_n (show a < 4002 by omega) (by decide), nI_clamp (show a < 2 ^ 31 by omega)]
  have fault : ∀ r', fC_X5_find N K sm (nI iu - 1) (mL S 6 a) M = some (-1, M) → fM_nearName N ts S = bM_nearName_31 N ts (rw53 S r') → (∃ f S', FLT f ∧ fT_X3_readPlace N (z + 7) ts K M = some (.inr (K, wI M (z + 7) 5 (nI f))) ∧ fM_nearName N ts S = some S' ∧ DDs b bn rc S f S') := fun r' c r => by
    have h' := h.r53 r'
    obtain ⟨f, f1, f2, f3⟩ := rf_nI h'.2.2.1 N (w := 2) (by omega) (by omega)
    have f2' : fT_X3_refuse N (z + 7) 2 K M = some (.inr (K, wI M (z + 7) 5 (nI f))) := f2
    have f3' : fM_wrong N 2 (rw53 S r') = some (pF (rw53 S r') 8 (nI f)) := f3
    refine ⟨f, _, f1, ?_, ?_, ((h'.dds f1).p7 (nI a + 1)).1, ?_⟩
    · rw [cls, c, bs]
      dsimp only
      rw [if_neg (by decide), f2', tb_r]
    · rw [r]
      unfold bM_nearName_31 bM_nearName_32 bM_nearName_109
      rw [if_pos rfl, f3', bs]
      have e7 : mF (pF (rw53 S r') 8 (nI f)) 7 = nI a := h.m7
      rw [e7]
    · have d := (h'.dds f1).p7 (nI a + 1)
      exact (d.fr (FR.r53 (z := z) (b := b) (sm := sm) (K0 := K0) (M := M) (S := S) r')).2
  rcases h.look N hN (mL S 6 a) with ⟨u, w, s, r', hu, hw, hi, c, hpos, lk⟩ | ⟨c, hpos | ⟨hpos, r', lk⟩⟩
  · obtain ⟨s8, sk⟩ := slot_k h.2.1.2.2.1 hw hi
    obtain ⟨h1, f1⟩ := h.own r' w s
    obtain ⟨l1, l2, l3⟩ := h1.lean hu hw N
    have eu : nI iu - 1 = nI u := by rw [hu]; exact sub1 u (by have := h.2.1.2.2.2.2.2.2; omega)
    have hun : u < 24 := by have := h.2.1.2.2.2.2.2.2; omega
    -- the reference, from the name found on
    have e34 : (24 : Int32) * (24 * nI bn + nI u) + nI w = nI (24 * (24 * bn + u) + w) := by rw [e24b, nI_add, show (24 : Int32) = nI 24 from rfl, nI_mul, nI_add]
    have e27 : (8 : Int32) * (24 * nI bn + nI w) + nI s = nI (8 * (24 * bn + w) + s) := by rw [e24b, nI_add, show (8 : Int32) = nI 8 from rfl, nI_mul, nI_add]
    generalize hS1 : pF (pF (rw53 S r') 51 (nI w)) 52 (nI s) = S1 at *
    have m51 : mF S1 51 = nI w := by rw [← hS1]; rfl
    have m52 : mF S1 52 = nI s := by rw [← hS1]; rfl
    have m12 : mF S1 12 = nI bn := by rw [← hS1]; exact h12
    have m49 : mF S1 49 = nI u := by rw [← hS1, ← eu]; exact h49
    have m7 : mF S1 7 = nI a := h1.m7
    have a27 : mA S1 27 = mA S 27 := by rw [← hS1]; exact rw53_A _ _ (by decide)
    have ref1 : fM_nearName N ts S = if ts = 0 then some (pF (pA S1 34 (24 * (24 * bn + u) + w) 1) 7 (nI (a + 1))) else if mA S 27 (8 * (24 * bn + w) + s) = 0 then some (pF (pA S1 34 (24 * (24 * bn + u) + w) 1) 7 (nI (a + 1))) else ((fM_wrong N 6 (pA S1 34 (24 * (24 * bn + u) + w) 1)).bind fun o => some (pF o 7 (mF o 7 + 1))) := by
      rw [ref hpos, lk, bs]
      dsimp only
      rw [if_neg (by decide)]
      unfold bM_nearName_32 bM_nearName_109
      have p12 : ∀ i q, mF (pA S1 34 i q) 12 = nI bn := fun _ _ => m12
      have p51 : ∀ i q, mF (pA S1 34 i q) 51 = nI w := fun _ _ => m51
      have p52 : ∀ i q, mF (pA S1 34 i q) 52 = nI s := fun _ _ => m52
      have p7 : ∀ i q, mF (pA S1 34 i q) 7 = nI a := fun _ _ => m7
      rw [if_neg (by decide), m12, m49, m51, e34, ck_n (show 24 * (24 * bn + u) + w < 1152 by omega) (by decide), nI_clamp (show 24 * (24 * bn + u) + w < 2 ^ 31 by omega), p12, p51, p52, p7, e27, ck_n (show 8 * (24 * bn + w) + s < 384 by omega) (by decide), nI_clamp (show 8 * (24 * bn + w) + s < 2 ^ 31 by omega), nI_1, mA_Ane _ _ _ (show (27 : Nat) ≠ 34 by decide), a27]
      rfl
    have c81 : bT_X3_readPlace_81 N (z + 7) ts (nI a) (nI (8 * w + s)) K M = if ts = 0 then (bT_X3_readPlace_102 N) (z + 7) ts (nI a) (nI (8 * w + s)) K M else ((fC_X5_isStatic N K sm (nI (8 * w + s)) M).bind fun o90 => if o90.1 = 0 then (tb (fT_X3_refuse N (z + 7) 6 K o90.2) fun o99 => (bT_X3_readPlace_102 N) (z + 7) ts (nI a) (nI (8 * w + s)) o99.1 o99.2) else ((bT_X3_readPlace_102 N) (z + 7) ts (nI a) (nI (8 * w + s)) K o90.2)) := by
      unfold bT_X3_readPlace_81
      rw [gd_k h.k7, nn_s h.r71, gd_k h.ks]
    have cl0 : fT_X3_readPlace N (z + 7) ts K M = bT_X3_readPlace_81 N (z + 7) ts (nI a) (nI (8 * w + s)) K M := by
      rw [cls, c, bs]
      dsimp only
      rw [if_pos (nI_ge0 (by omega))]
    have fin : ∀ k, SLs S bn w s k → (k = 0 ∨ k = 1) → (ts = 0 ∨ ts = 1 ∧ k = 0) → fM_nearName N ts S = some (pF (pA S1 34 (24 * (24 * bn + u) + w) 1) 7 (nI (a + 1))) → fT_X3_readPlace N (z + 7) ts K M = bT_X3_readPlace_102 N (z + 7) ts (nI a) (nI (8 * w + s)) K M → NearY z b bn sm size t nd nu nm iu ex K0 K M S mk j rc cc a v rv dp N ts := fun k hsl hk01 htk r c2 => by
      have h3 := l3.tk (a' := a + 1) (by omega) (by omega)
      have fr := (f1.tr l2).tr (FR.mv (z := z) (b := b) (sm := sm) (K0 := K0) (M := wI M (sm + 7) u (cI M (sm + 7) u ||| ((1 : Int32) <<< (nI w &&& 31)))) (S := pA S1 34 (24 * (24 * bn + u) + w) 1) (a + 1) (nI (a + 1)) h.hz)
      have hsl3 : SLs (pF (pA S1 34 (24 * (24 * bn + u) + w) 1) 7 (nI (a + 1))) bn w s k := by
        unfold SLs at hsl ⊢
        rw [fr.2.2.2.2.2.2.1 25 (by decide) (by decide) (by decide), fr.2.2.2.2.2.2.1 27 (by decide) (by decide) (by decide)]
        exact hsl
      have cwe : ∀ x, cw bn (pF (pA S1 34 (24 * (24 * bn + u) + w) 1) 7 (nI (a + 1))) x = cw bn S x := fun x => cwd_ag (fr.2.2.2.2.2.2.1 28 (by decide) (by decide) (by decide)) (fr.2.2.2.2.2.2.1 29 (by decide) (by decide) (by decide)) (fun _ _ => rfl)
      have pw := pw_ok h3.ks h3.2.1.2.2.1 n24 hw hsl3 hk01 htk N
      rw [cwe] at pw
      refine ⟨w, s, k, _, _, hw, hsl, hk01, fun q => ?_, ?_, r, m51, m52, fr, h3.less (by omega)⟩
      · rcases htk with q2 | q2
        · rw [q2] at q; exact absurd q (by decide)
        · exact q2.2
      · rw [c2]
        unfold bT_X3_readPlace_102
        rw [gd_k h.k7, gd_t (by decide), nn_s h.r71, gd_k h.ks, h4, eu, nI_d8 s8 (by omega), l1, bs, nI_1, mv_ok l3.2.2.1.1 l3.2.2.1.2.1 N (show a + 1 ≤ t by omega), bs, nn_s h3.r71, gd_k h.ks, pw, bs]
    rcases hts with t0 | t1
    · subst t0
      rw [if_pos rfl] at ref1
      have cl1 : fT_X3_readPlace N (z + 7) 0 K M = bT_X3_readPlace_102 N (z + 7) 0 (nI a) (nI (8 * w + s)) K M := by rw [cl0, c81, if_pos rfl]
      rcases sk with q | q
      · exact Or.inl <| fin 1 q (Or.inr rfl) (Or.inl rfl) ref1 cl1
      · exact Or.inl <| fin 0 q (Or.inl rfl) (Or.inl rfl) ref1 cl1
    · subst t1
      rw [if_neg (by decide)] at ref1 c81
      rcases sk with q | q
      · right
        have q27 : mA S 27 (8 * (24 * bn + w) + s) = 1 := q.2
        have is := is_ok h.ks h.2.1.2.2.1 n24 hw q (Or.inr rfl) N
        rw [is, bs] at c81
        dsimp only at c81
        rw [if_pos (by decide)] at c81
        obtain ⟨f, g1, g2, g3⟩ := rf_nI l3.2.2.1 N (w := 6) (by omega) (by omega)
        obtain ⟨f', g1', g2', g3'⟩ := rf_nI h.2.2.1 N (w := 6) (by omega) (by omega)
        have g2'' : fT_X3_refuse N (z + 7) 6 K M = some (.inr (K, wI M (z + 7) 5 (nI f'))) := g2'
        have g3'' : fM_wrong N 6 (pA S1 34 (24 * (24 * bn + u) + w) 1) = some (pF (pA S1 34 (24 * (24 * bn + u) + w) 1) 8 (nI f)) := g3
        have ff : f = f' := by
          have e1 : fM_wrong N (nI 6) (pA S1 34 (24 * (24 * bn + u) + w) 1) = some (pF (pA S1 34 (24 * (24 * bn + u) + w) 1) 8 (nI f)) := g3
          have e2 : fM_wrong N (nI 6) S = some (pF S 8 (nI f')) := g3'
          unfold fM_wrong bM_wrong_25 at e1 e2
          rw [if_pos l3.f0, l3.m7, ck_n (show a < 4002 by omega) (by decide), nI_clamp (show a < 2 ^ 31 by omega), mA_Ane _ _ _ (show (5 : Nat) ≠ 34 by decide)] at e1
          rw [if_pos h.f0, h.m7, ck_n (show a < 4002 by omega) (by decide), nI_clamp (show a < 2 ^ 31 by omega)] at e2
          have a5 : mA S1 5 = mA S 5 := by rw [← hS1]; exact rw53_A _ _ (by decide)
          rw [a5] at e1
          have e1' := congrArg (fun o => (o.map (fun s => mF s 8))) e1
          have e2' := congrArg (fun o => (o.map (fun s => mF s 8))) e2
          have x1 : some (nI 6 + 16 * mA S 5 a) = some (nI f) := e1'
          have x2 : some (nI 6 + 16 * mA S 5 a) = some (nI f') := e2'
          rw [x1] at x2
          exact (nI_eq (by have := g1.2; omega) (by have := g1'.2; omega)).mp (Option.some.inj x2)
        subst ff
        have d := (l3.dds g1).p7 (nI a + 1)
        refine ⟨f, _, g1, ?_, ?_, d.fr (f1.tr l2)⟩
        · rw [cl0, c81, g2'', tb_r]
        · rw [ref1, q27, if_neg (by decide), g3'', bs]
          have e7 : mF (pF (pA S1 34 (24 * (24 * bn + u) + w) 1) 8 (nI f)) 7 = nI a := m7
          rw [e7]
      · have q27 : mA S 27 (8 * (24 * bn + w) + s) = 0 := q.2
        have is := is_ok h.ks h.2.1.2.2.1 n24 hw q (Or.inl rfl) N
        rw [is, bs] at c81
        dsimp only at c81
        rw [if_neg (by decide)] at c81
        rw [if_pos q27] at ref1
        exact Or.inl <| fin 0 q (Or.inl rfl) (Or.inr ⟨rfl, rfl⟩) ref1 (by rw [cl0, c81])
  · right
    refine fault (mA S 53) c ?_
    rw [rw53_s]
    unfold fM_nearName
    rw [h49, if_pos hpos]
  · right
    refine fault r' c ?_
    rw [ref hpos, lk, bs]
    dsimp only
    rw [if_pos rfl]
/-- a unit's name, a point, a name -/
theorem far_ok (h : PS z b bn sm size t nd nu nm iu ex K0 K M S mk j rc cc a v rv dp) (hk : cI M (z + 3) a = 2) (hp : cI M (z + 3) (a + 1) = 46) (hl2 : a + 1 < t) {ts : Int32} (hts : ts = 0 ∨ ts = 1) (N : Nat) (hN : 30 < N) :
    ((a + 3 ≤ t ∧ mA S 4 (a + 2) = 1) ∧ fT_X3_readPlace N (z + 7) ts K M = some (.inl (wd (if ts = 0 then 21 else 22) (nI a) (nI iu - 1), K, mv z M (a + 3))) ∧ fM_farName N S = some (pF S 7 (nI (a + 3))) ∧ FR z b sm K0 M (mv z M (a + 3)) S (pF S 7 (nI (a + 3))) ∧ PS z b bn sm size t nd nu nm iu ex K0 K (mv z M (a + 3)) (pF S 7 (nI (a + 3))) mk j rc cc (a + 3) (v + 6) rv dp) ∨
    (∃ f S', FLT f ∧ fT_X3_readPlace N (z + 7) ts K M = some (.inr (K, wI (mv z M (a + 2)) (z + 7) 5 (nI f))) ∧ fM_farName N S = some S' ∧ DDs b bn rc S f S') := by
  have ht := h.t4
  have h4 : cI M (z + 7) 4 = nI iu - 1 := h.2.1.2.2.2.2.2.1
  have h2 := h.tk (a' := a + 2) (by omega) (by omega)
  have cls : fT_X3_readPlace N (z + 7) ts K M = tb (fT_X3_take N (z + 7) 2 K (mv z M (a + 2))) fun o29 => (bT_X3_readPlace_32 N) (z + 7) ts (nI a) o29.1 o29.2 := by
    unfold fT_X3_readPlace
    rw [gd_k h.k7, nn_s h.r70, gd_k h.k1, h.at, nI_1, ka_ok h.2.2.1 N (show a + 1 ≤ t by omega), bs]
    dsimp only
    rw [if_pos hp, show (2 : Int32) = nI 2 from rfl, nI_add, mv_ok h.2.2.1.1 h.2.2.1.2.1 N (show a + 2 ≤ t by omega), bs]
  have ref : fM_farName N S = ((fM_isName N (pF S 7 (nI (a + 2)))).bind fun o18 => if o18.1 = 0 then ((fM_wrong N 1 o18.2).bind fun o26 => (bM_farName_29 N) o26) else ((bM_farName_29 N) o18.2)) := by
    unfold fM_farName
    rw [h.m7, show (2 : Int32) = nI 2 from rfl, nI_add, if_pos h2.f0]
  rw [cls, ref]
  rcases k_name h2.2.2.1 N hN with ⟨e, m, vv, -⟩ | ⟨e, m⟩
  · left
    have hl : a + 2 < t := h2.2.2.1.lt (by rw [e]; decide)
    have h3 := h2.tk (a' := a + 3) (by omega) (by omega)
    rw [mv_mv, pF_pF] at h3
    refine ⟨⟨by omega, h.2.2.1.w1 hl (by have e' := e; rw [mv_I _ (by omega)] at e'; exact e')⟩, ?_, ?_, FR.mv _ _ h.hz, h3.less (by omega)⟩
    · rw [t_yes h2.2.2.1 N e hl, tb_l]
      dsimp only
      rw [mv_mv]
      unfold bT_X3_readPlace_32 bT_X3_readPlace_43
      have e4 : cI (mv z M (a + 3)) (z + 7) 4 = nI iu - 1 := by rw [mv_o _ (by decide) (by decide)]; exact h4
      have ew : ∀ o x y, fC_X5_word N K o x y (mv z M (a + 2 + 1)) = some (wd o x y, mv z M (a + 2 + 1)) := fun _ _ _ => rfl
      rcases hts with q | q
      · subst q
        rw [if_pos rfl, gd_k h.k7, e4, ew, bs]
        rfl
      · subst q
        rw [if_neg (by decide), gd_k h.k7, e4, ew, bs]
        rfl
    · rw [m, bs]
      dsimp only
      rw [if_neg (by decide)]
      unfold bM_farName_29
      have e7 : mF (pF S 7 (nI (a + 2))) 7 = nI (a + 2) := rfl
      rw [e7, nI_1, pF_pF]
  · right
    obtain ⟨f, f1, f2, f3⟩ := rf_nI h2.2.2.1 N (w := 1) (by omega) (by omega)
    have f3' : fM_wrong N 1 (pF S 7 (nI (a + 2))) = some (pF (pF S 7 (nI (a + 2))) 8 (nI f)) := f3
    have d := (h2.dds f1).p7 (nI (a + 2) + 1)
    refine ⟨f, _, f1, ?_, ?_, d.1, (AgO.pF o7 _).tr d.2.1, d.2.2⟩
    · rw [t_no h2.2.2.1 N e f2, tb_r]
    · rw [m, bs]
      dsimp only
      rw [if_pos rfl, f3', bs]
      rfl
end NEAR
