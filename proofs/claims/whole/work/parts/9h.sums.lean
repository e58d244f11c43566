section SUMS
variable {N z b bn sm size t nd nu nm iu : Nat} {ex : Nat → Nat → Prop} {K0 K : Ka} {M M' : Cm} {S S' : Ms} {mk : List Mk} {j : Jt} {rc cc a v rv dp w h kc kr lv : Nat} {tl : List Nat}
theorem j_2 (N : Nat) (K : Ka) (M : Cm) (k : Int32) : fC_X3_isJoint N K 2 k M = some (if k = 42 ∨ k = 47 ∨ k = 37 then 1 else 0, M) := by rw [j_ok, if_neg (by decide), if_neg (by decide)]
theorem j_1 (N : Nat) (K : Ka) (M : Cm) (k : Int32) : fC_X3_isJoint N K 1 k M = some (if k = 43 ∨ k = 45 then 1 else 0, M) := by rw [j_ok, if_neg (by decide), if_pos rfl]
theorem j_0 (N : Nat) (K : Ka) (M : Cm) (k : Int32) : fC_X3_isJoint N K 0 k M = some (if k = 60 ∨ k = 61 then 1 else 0, M) := by rw [j_ok, if_pos rfl]
theorem pp_bin {o : Nat} (ho : 18 ≤ o ∧ o ≤ 24) : pp o = 2 := by
  unfold pp
  rw [if_neg (by omega), if_pos ho]
/-- one more operand, and what joins them -/
theorem js {r : Nat} (hP : PS z b bn sm size t nd nu nm iu ex K0 K M S mk (h + 1, tl, r) rc cc a (v + 1) rv w) (hw : w ≤ 10) (hh : h ≤ 3 * w + lv) (hlv : lv ≤ 2) (hT : TCx mk tl (7 * (10 - w) + 4)) (hrv : rv = 0 ∨ rv + 3 ≤ a) (hl : a < t) (hN : 2001 < N) (hr : r ≤ 90) (hE : HLx N z b bn sm size t nd nu nm iu ex K0 K (lv + 1) w kc kr) {c o : Nat} (ho : 18 ≤ o ∧ o ≤ 24) (hc : ∀ S', cw bn S' (o, 0, 0) = wd (nI c) 0 0) (hro : ∀ cf, rfd cf (o, 0, 0) = (nI o, 0, 0)) :
    (∃ M1 S1 M2 S2 rc1 cc1 a1, gB N kc 5 (z + 7) (nI (lv + 1)) (nI w) K (mv z M (a + 1)) = some (.inl (K, M1)) ∧ gP N kr (6 + lv) (pF S 7 (nI (a + 1))) = some S1 ∧ fT_X3_emit N (z + 7) (nI c) 0 0 K M1 = some (.inl (nI cc1, K, M2)) ∧ fM_emit N (nI o) 0 0 S1 = some (nI rc1, S2) ∧ a < a1 ∧ FR z b sm K0 M M2 S S2 ∧ PS z b bn sm size t nd nu nm iu ex K0 K M2 S2 mk (h + 1, tl, 7 * (10 - w) + (4 - lv)) (rc1 + 1) (cc1 + 1) a1 (v + 1) rv w) ∨
    FB z b bn K0 M S (8010 + 3 * kr) (gB N kc 5 (z + 7) (nI (lv + 1)) (nI w) K (mv z M (a + 1))) (gP N kr (6 + lv) (pF S 7 (nI (a + 1)))) := by
  have h1 := hP.tk (a' := a + 1) (by omega) (by omega)
  have h1' : PS z b bn sm size t nd nu nm iu ex K0 K (mv z M (a + 1)) (pF S 7 (nI (a + 1))) mk (h + 1, tl, r) rc cc (a + 1) (v + 1 + 1) rv w := h1.less (by omega)
  have q := hE _ _ mk (h + 1) tl r rc cc (a + 1) (v + 1) rv h1' (by omega) hr hT (by omega)
  rw [show 5 + (lv + 1) = 6 + lv by omega] at q
  rcases q with ⟨M1, S1, rc1, cc1, a1, r1, q1, q2, q3, q4, q5, q6⟩ | q
  · left
    obtain ⟨h3, f3⟩ := q6.em (x := (o, 0, 0)) (ρ := 7 * (10 - w) + (3 - lv)) (by right; show 13 < o; omega) (by show o ≠ 31; omega) (by show ¬ (25 ≤ o ∧ o ≤ 27); omega) (EMC.mk' (by omega) (VO.triv (Or.inr (Or.inr (Or.inr (Or.inr (Or.inl ⟨by show 15 ≤ o; omega, by show o ≤ 24; omega⟩)))))) (by omega) (by show pp o ≤ h + 1 + 1; rw [pp_bin ho]; omega) (by show 2 ≤ o; omega) (by show o < 30; omega) (by omega) (hT.le (by omega)))
    have h3' := h3.drop (by show o < 28; omega)
    rw [nx_bin rc1 h tl _ o ho, show 7 * (10 - w) + (3 - lv) + 1 = 7 * (10 - w) + (4 - lv) by omega, hc, hro] at h3'
    rw [hc, hro] at f3
    exact ⟨M1, S1, _, _, rc1, cc1, a1, q1, q2, q6.wC N _ _ _, q6.wS N _ _ _, by omega, ((FR.mv (a + 1) (nI (a + 1)) hP.hz).tr q5).tr f3, h3'⟩
  · exact Or.inr (q.pre (mv_A _) (AgO.pF o7 _) (fun _ _ _ => rfl))
theorem PS.isS (hP : PS z b bn sm size t nd nu nm iu ex K0 K M S mk j rc cc a v rv dp) (N : Nat) {c : Nat} (h1 : 4 ≤ c) (h2 : c ≤ 126) : fM_isSign N (nI c) S = some (if cI M (z + 3) a = nI c then 1 else 0, S) := by
  rcases k_sign hP.2.2.1 N h1 h2 with q | q
  · rw [if_pos q.1]; exact q.2
  · rw [if_neg q.1]; exact q.2
theorem lv3 (hF : HPx N z b bn sm size t nd nu nm iu ex K0 K w kc kr) : HLx N z b bn sm size t nd nu nm iu ex K0 K 3 w (kc + 1) kr := by
  intro M S mk h tl r rc cc a v rv hP hh hr hT hrv
  have e : gB N (kc + 1) 5 (z + 7) (nI 3) (nI w) K M = tb (gB N kc 6 (z + 7) (nI w) 0 K M) fun o7 => some (.inl (o7.1, o7.2)) := by
    rw [uB_5]
    unfold fT_X3_readExpression
    rw [if_neg (by decide), gd_k hP.k7]
    rfl
  rw [e]
  rcases hF M S mk h tl r rc cc a v rv hP hh hr (hT.le (by omega)) hrv with ⟨M1, S1, rc1, cc1, a1, r1, q1, q2, q3, q4, q5, q6⟩ | q
  · exact Or.inl ⟨M1, S1, rc1, cc1, a1, r1, by rw [q1, tb_l], q2, q3, q4, q5, q6⟩
  · obtain ⟨f, K', M', S', x1, x2, x3⟩ := q
    exact Or.inr ⟨f, K', M', S', x1, by rw [x2, tb_r], x3⟩
theorem ex_lp2 (hw : w ≤ 10) (hN : 2001 < N) (hkr : kr ≤ 150) (hE : HLx N z b bn sm size t nd nu nm iu ex K0 K 3 w kc kr) : ∀ (n n' : Nat) (M : Cm) (S : Ms) (r rc cc a i : Nat), t < n + a → t < n' + a → i ≤ a → PS z b bn sm size t nd nu nm iu ex K0 K M S mk (h + 1, tl, r) rc cc a (v + 1) rv w → h ≤ 3 * w + 2 → r ≤ 7 * (10 - w) + 2 → TCx mk tl (7 * (10 - w) + 4) → (rv = 0 ∨ rv + 3 ≤ a) →
    EOk z b bn sm size t nd nu nm iu ex K0 K M S mk (h + 1) tl (a - 1) (v + 1) rv w (7 * (10 - w) + 2) (8010 + 3 * (kr + 1)) (lT_X3_readExpression_38 N (gB N kc) (bT_X3_readExpression_94 N (gB N kc)) n (z + 7) 2 (nI w) (nI (t + 1)) (nI i) K M) (lM_product_4 N (gP N kr) (bM_product_87 N (gP N kr)) n' S) := by
  intro n
  induction n with
  | zero => intro n' M S r rc cc a i h1 _ _ hP; have := hP.t4; omega
  | succ n ih =>
    intro n' M S r rc cc a i h1 h2 hi hP hh hr hT hrv
    have ht := hP.t4
    have a2 := hP.2.2.2.2.2.2.2.2.2
    obtain ⟨n', rfl⟩ : ∃ m, n' = m + 1 := ⟨n' - 1, by omega⟩
    rw [lT_X3_readExpression_38, lM_product_4, if_neg (nI_ge (show i < t + 1 by omega) (by omega)), gd_k hP.k7, j_2, bs, hP.kn]
    dsimp only
    have s42 : fM_isSign N 42 S = _ := hP.isS N (c := 42) (by decide) (by decide)
    have s47 : fM_isSign N 47 S = _ := hP.isS N (c := 47) (by decide) (by decide)
    have s37 : fM_isSign N 37 S = _ := hP.isS N (c := 37) (by decide) (by decide)
    have step : ∀ c o : Nat, cI M (z + 3) a = nI c → c ≠ 0 → c < 200 → (18 ≤ o ∧ o ≤ 24) → (∀ S', cw bn S' (o, 0, 0) = wd (nI c) 0 0) → (∀ cf, rfd cf (o, 0, 0) = (nI o, 0, 0)) → EOk z b bn sm size t nd nu nm iu ex K0 K M S mk (h + 1) tl (a - 1) (v + 1) rv w (7 * (10 - w) + 2) (8010 + 3 * (kr + 1)) ((fC_X3_moveTo N K (z + 7) (cI M (z + 7) 2 + 1) M).bind fun o68 => tb (gB N kc 5 (z + 7) (2 + 1) (nI w) K o68) fun o76 => (bT_X3_readExpression_79 N (gB N kc) (lT_X3_readExpression_38 N (gB N kc) (bT_X3_readExpression_94 N (gB N kc)) n) (bT_X3_readExpression_94 N (gB N kc))) (z + 7) 2 (nI w) (nI (t + 1)) (nI i) (cI M (z + 3) a) o76.1 o76.2) (bM_product_61 N (gP N kr) (lM_product_4 N (gP N kr) (bM_product_87 N (gP N kr)) n') (bM_product_87 N (gP N kr)) (nI o) S) := fun c o hk hc0 hc1 ho hcw hro => by
      have hl : a < t := hP.2.2.1.lt (by rw [hk]; exact fun q => hc0 ((nI_eq (b := 0) (by omega) (by decide)).mp q))
      rw [hP.mvC N hl, bs]
      unfold bM_product_61
      rw [hP.m7, nI_1]
      rcases js hP hw (lv := 2) hh (Nat.le_refl _) hT hrv hl hN (by omega) hE ho hcw hro with ⟨M1, S1, M2, S2, rc1, cc1, a1, q1, q2, q3, q4, q5, q6, q7⟩ | q
      · have q1' : gB N kc 5 (z + 7) (2 + 1) (nI w) K (mv z M (a + 1)) = some (.inl (K, M1)) := q1
        have q2' : gP N kr 8 (pF S 7 (nI (a + 1))) = some S1 := q2
        rw [q1', q2', tb_l, bs, q4, bs]
        dsimp only
        unfold bT_X3_readExpression_79 bT_X3_readExpression_87
        rw [gd_k hP.k7, hk, q3, ta_l]
        dsimp only
        rw [nI_1]
        exact EOk.fr (ih n' M2 S2 _ (rc1 + 1) (cc1 + 1) a1 (i + 1) (by omega) (by omega) (by omega) q7 hh (by omega) hT (by omega)) q6 (by omega)
      · right
        have q' : FB z b bn K0 M S (8010 + 3 * kr) (gB N kc 5 (z + 7) (2 + 1) (nI w) K (mv z M (a + 1))) (gP N kr 8 (pF S 7 (nI (a + 1)))) := q
        refine (q'.go (n' := 8010 + 3 * (kr + 1)) (fun f S1 d => ?_))
        obtain ⟨r1, S2, g1, g2, g3⟩ := d.em hP.1.1 hP.1.2.1 (by omega) N (nI o) 0 0
        refine ⟨S2, ?_, g3.le (by omega)⟩
        rw [g2, bs]
        dsimp only
        obtain ⟨n', rfl⟩ : ∃ m, n' = m + 1 := ⟨n' - 1, by omega⟩
        rw [lM_product_4, d_isS g3.1, bs]; dsimp only
        rw [if_pos rfl, d_isS g3.1, bs]; dsimp only
        rw [if_pos rfl, d_isS g3.1, bs]; dsimp only
        rw [if_pos rfl]; rfl
    by_cases k42 : cI M (z + 3) a = nI 42
    · rw [if_pos (show cI M (z + 3) a = 42 ∨ cI M (z + 3) a = 47 ∨ cI M (z + 3) a = 37 from Or.inl k42), if_neg (by decide), s42, bs]; dsimp only
      rw [if_pos k42, if_neg (by decide)]
      unfold bM_product_31
      rw [s42, bs]; dsimp only
      rw [if_pos k42, if_neg (by decide)]
      exact step 42 18 k42 (by decide) (by decide) (by decide) (fun _ => rfl) (fun _ => rfl)
    by_cases k47 : cI M (z + 3) a = nI 47
    · rw [if_pos (show cI M (z + 3) a = 42 ∨ cI M (z + 3) a = 47 ∨ cI M (z + 3) a = 37 from Or.inr (Or.inl k47)), if_neg (by decide), s42, bs]; dsimp only
      rw [if_neg k42, if_pos rfl, s47, bs]; dsimp only
      rw [if_pos k47, if_neg (by decide)]
      unfold bM_product_31
      rw [s42, bs]; dsimp only
      rw [if_neg k42, if_pos rfl, s47, bs]; dsimp only
      rw [if_pos k47, if_neg (by decide)]
      exact step 47 19 k47 (by decide) (by decide) (by decide) (fun _ => rfl) (fun _ => rfl)
    by_cases k37 : cI M (z + 3) a = nI 37
    · rw [if_pos (show cI M (z + 3) a = 42 ∨ cI M (z + 3) a = 47 ∨ cI M (z + 3) a = 37 from Or.inr (Or.inr k37)), if_neg (by decide), s42, bs]; dsimp only
      rw [if_neg k42, if_pos rfl, s47, bs]; dsimp only
      rw [if_neg k47, if_pos rfl, s37, bs]; dsimp only
      rw [if_pos k37, if_neg (by decide)]
      unfold bM_product_31
      rw [s42, bs]; dsimp only
      rw [if_neg k42, if_pos rfl, s47, bs]; dsimp only
      rw [if_neg k47, if_pos rfl]
      exact step 37 20 k37 (by decide) (by decide) (by decide) (fun _ => rfl) (fun _ => rfl)
    · rw [if_neg (show ¬ (cI M (z + 3) a = 42 ∨ cI M (z + 3) a = 47 ∨ cI M (z + 3) a = 37) from fun q => q.elim k42 (fun q => q.elim k47 k37)), if_pos rfl, s42, bs]; dsimp only
      rw [if_neg k42, if_pos rfl, s47, bs]; dsimp only
      rw [if_neg k47, if_pos rfl, s37, bs]; dsimp only
      rw [if_neg k37, if_pos rfl]
      exact Or.inl ⟨M, S, rc, cc, a, r, rfl, rfl, by omega, hr, FR.rf _ _ _ _ _ _, hP⟩
theorem ex_lp1 (hw : w ≤ 10) (hN : 2001 < N) (hkr : kr ≤ 150) (hE : HLx N z b bn sm size t nd nu nm iu ex K0 K 2 w kc kr) : ∀ (n n' : Nat) (M : Cm) (S : Ms) (r rc cc a i : Nat), t < n + a → t < n' + a → i ≤ a → PS z b bn sm size t nd nu nm iu ex K0 K M S mk (h + 1, tl, r) rc cc a (v + 1) rv w → h ≤ 3 * w + 1 → r ≤ 7 * (10 - w) + 3 → TCx mk tl (7 * (10 - w) + 4) → (rv = 0 ∨ rv + 3 ≤ a) →
    EOk z b bn sm size t nd nu nm iu ex K0 K M S mk (h + 1) tl (a - 1) (v + 1) rv w (7 * (10 - w) + 3) (8010 + 3 * (kr + 1)) (lT_X3_readExpression_38 N (gB N kc) (bT_X3_readExpression_94 N (gB N kc)) n (z + 7) 1 (nI w) (nI (t + 1)) (nI i) K M) (lM_sum_4 N (gP N kr) (bM_sum_64 N (gP N kr)) n' S) := by
  intro n
  induction n with
  | zero => intro n' M S r rc cc a i h1 _ _ hP; have := hP.t4; omega
  | succ n ih =>
    intro n' M S r rc cc a i h1 h2 hi hP hh hr hT hrv
    have ht := hP.t4
    have a2 := hP.2.2.2.2.2.2.2.2.2
    obtain ⟨n', rfl⟩ : ∃ m, n' = m + 1 := ⟨n' - 1, by omega⟩
    rw [lT_X3_readExpression_38, lM_sum_4, if_neg (nI_ge (show i < t + 1 by omega) (by omega)), gd_k hP.k7, j_1, bs, hP.kn]
    dsimp only
    have s43 : fM_isSign N 43 S = _ := hP.isS N (c := 43) (by decide) (by decide)
    have s45 : fM_isSign N 45 S = _ := hP.isS N (c := 45) (by decide) (by decide)
    have step : ∀ c o : Nat, cI M (z + 3) a = nI c → c ≠ 0 → c < 200 → (18 ≤ o ∧ o ≤ 24) → (∀ S', cw bn S' (o, 0, 0) = wd (nI c) 0 0) → (∀ cf, rfd cf (o, 0, 0) = (nI o, 0, 0)) → EOk z b bn sm size t nd nu nm iu ex K0 K M S mk (h + 1) tl (a - 1) (v + 1) rv w (7 * (10 - w) + 3) (8010 + 3 * (kr + 1)) ((fC_X3_moveTo N K (z + 7) (cI M (z + 7) 2 + 1) M).bind fun o68 => tb (gB N kc 5 (z + 7) (1 + 1) (nI w) K o68) fun o76 => (bT_X3_readExpression_79 N (gB N kc) (lT_X3_readExpression_38 N (gB N kc) (bT_X3_readExpression_94 N (gB N kc)) n) (bT_X3_readExpression_94 N (gB N kc))) (z + 7) 1 (nI w) (nI (t + 1)) (nI i) (cI M (z + 3) a) o76.1 o76.2) (bM_sum_38 N (gP N kr) (lM_sum_4 N (gP N kr) (bM_sum_64 N (gP N kr)) n') (bM_sum_64 N (gP N kr)) (nI o) S) := fun c o hk hc0 hc1 ho hcw hro => by
      have hl : a < t := hP.2.2.1.lt (by rw [hk]; exact fun q => hc0 ((nI_eq (b := 0) (by omega) (by decide)).mp q))
      rw [hP.mvC N hl, bs]
      unfold bM_sum_38
      rw [hP.m7, nI_1]
      rcases js hP hw (lv := 1) hh (by decide) hT hrv hl hN (by omega) hE ho hcw hro with ⟨M1, S1, M2, S2, rc1, cc1, a1, q1, q2, q3, q4, q5, q6, q7⟩ | q
      · have q1' : gB N kc 5 (z + 7) (1 + 1) (nI w) K (mv z M (a + 1)) = some (.inl (K, M1)) := q1
        have q2' : gP N kr 7 (pF S 7 (nI (a + 1))) = some S1 := q2
        rw [q1', q2', tb_l, bs, q4, bs]
        dsimp only
        unfold bT_X3_readExpression_79 bT_X3_readExpression_87
        rw [gd_k hP.k7, hk, q3, ta_l]
        dsimp only
        rw [nI_1]
        exact EOk.fr (ih n' M2 S2 _ (rc1 + 1) (cc1 + 1) a1 (i + 1) (by omega) (by omega) (by omega) q7 hh (by omega) hT (by omega)) q6 (by omega)
      · right
        have q' : FB z b bn K0 M S (8010 + 3 * kr) (gB N kc 5 (z + 7) (1 + 1) (nI w) K (mv z M (a + 1))) (gP N kr 7 (pF S 7 (nI (a + 1)))) := q
        refine (q'.go (n' := 8010 + 3 * (kr + 1)) (fun f S1 d => ?_))
        obtain ⟨r1, S2, g1, g2, g3⟩ := d.em hP.1.1 hP.1.2.1 (by omega) N (nI o) 0 0
        refine ⟨S2, ?_, g3.le (by omega)⟩
        rw [g2, bs]
        dsimp only
        obtain ⟨n', rfl⟩ : ∃ m, n' = m + 1 := ⟨n' - 1, by omega⟩
        rw [lM_sum_4, d_isS g3.1, bs]; dsimp only
        rw [if_pos rfl, d_isS g3.1, bs]; dsimp only
        rw [if_pos rfl]; rfl
    by_cases k43 : cI M (z + 3) a = nI 43
    · rw [if_pos (show cI M (z + 3) a = 43 ∨ cI M (z + 3) a = 45 from Or.inl k43), if_neg (by decide), s43, bs]; dsimp only
      rw [if_pos k43, if_neg (by decide)]
      unfold bM_sum_22
      rw [s43, bs]; dsimp only
      rw [if_pos k43, if_neg (by decide)]
      exact step 43 21 k43 (by decide) (by decide) (by decide) (fun _ => rfl) (fun _ => rfl)
    by_cases k45 : cI M (z + 3) a = nI 45
    · rw [if_pos (show cI M (z + 3) a = 43 ∨ cI M (z + 3) a = 45 from Or.inr k45), if_neg (by decide), s43, bs]; dsimp only
      rw [if_neg k43, if_pos rfl, s45, bs]; dsimp only
      rw [if_pos k45, if_neg (by decide)]
      unfold bM_sum_22
      rw [s43, bs]; dsimp only
      rw [if_neg k43, if_pos rfl]
      exact step 45 22 k45 (by decide) (by decide) (by decide) (fun _ => rfl) (fun _ => rfl)
    · rw [if_neg (show ¬ (cI M (z + 3) a = 43 ∨ cI M (z + 3) a = 45) from fun q => q.elim k43 k45), if_pos rfl, s43, bs]; dsimp only
      rw [if_neg k43, if_pos rfl, s45, bs]; dsimp only
      rw [if_neg k45, if_pos rfl]
      exact Or.inl ⟨M, S, rc, cc, a, r, rfl, rfl, by omega, hr, FR.rf _ _ _ _ _ _, hP⟩
theorem lv2 (hw : w ≤ 10) (hN : 4010 < N) (hkr : kr ≤ 150) (hE : HLx N z b bn sm size t nd nu nm iu ex K0 K 3 w kc kr) : HLx N z b bn sm size t nd nu nm iu ex K0 K 2 w (kc + 1) (kr + 1) := by
  intro M S mk h tl r rc cc a v rv hP hh hr hT hrv
  have ht := hP.t4
  rw [uB_5, uP_7]
  have cl : fT_X3_readExpression N (gB N kc) (z + 7) (nI 2) (nI w) K M = tb (gB N kc 5 (z + 7) (nI 3) (nI w) K M) fun o16 => (bT_X3_readExpression_19 N (gB N kc)) (z + 7) 2 (nI w) o16.1 o16.2 := by
    unfold fT_X3_readExpression
    rw [if_pos (by decide), gd_k hP.k7]
    rfl
  rw [cl]
  unfold fM_product
  rcases hE M S mk h tl r rc cc a v rv hP (by omega) hr hT hrv with ⟨M1, S1, rc1, cc1, a1, r1, q1, q2, q3, q4, q5, q6⟩ | q
  · have q2' : gP N kr 8 S = some S1 := q2
    rw [q1, q2', tb_l, bs]
    dsimp only
    unfold bT_X3_readExpression_19 bT_X3_readExpression_34
    rw [if_neg (by decide), gd_k hP.k7, nn_s q6.r70, gd_k q6.k1, q6.tok]
    exact EOk.fr (ex_lp2 hw (by omega) hkr hE N N M1 S1 r1 rc1 cc1 a1 0 (by omega) (by omega) (by omega) q6 hh (by omega) hT (by omega)) q5 (by omega)
  · right
    have q' : FB z b bn K0 M S (8010 + 3 * kr) (gB N kc 5 (z + 7) (nI 3) (nI w) K M) (gP N kr 8 S) := q
    refine (q'.go (n' := 8010 + 3 * (kr + 1)) (fun f S1 d => ⟨S1, ?_, d.le (by omega)⟩))
    obtain ⟨n', rfl⟩ : ∃ m, N = m + 1 := ⟨N - 1, by omega⟩
    rw [lM_product_4, d_isS d.1, bs]; dsimp only
    rw [if_pos rfl, d_isS d.1, bs]; dsimp only
    rw [if_pos rfl, d_isS d.1, bs]; dsimp only
    rw [if_pos rfl]; rfl
theorem lv1 (hw : w ≤ 10) (hN : 4010 < N) (hkr : kr ≤ 150) (hE : HLx N z b bn sm size t nd nu nm iu ex K0 K 2 w kc kr) : HLx N z b bn sm size t nd nu nm iu ex K0 K 1 w (kc + 1) (kr + 1) := by
  intro M S mk h tl r rc cc a v rv hP hh hr hT hrv
  have ht := hP.t4
  rw [uB_5, uP_6]
  have cl : fT_X3_readExpression N (gB N kc) (z + 7) (nI 1) (nI w) K M = tb (gB N kc 5 (z + 7) (nI 2) (nI w) K M) fun o16 => (bT_X3_readExpression_19 N (gB N kc)) (z + 7) 1 (nI w) o16.1 o16.2 := by
    unfold fT_X3_readExpression
    rw [if_pos (by decide), gd_k hP.k7]
    rfl
  rw [cl]
  unfold fM_sum
  rcases hE M S mk h tl r rc cc a v rv hP (by omega) hr hT hrv with ⟨M1, S1, rc1, cc1, a1, r1, q1, q2, q3, q4, q5, q6⟩ | q
  · have q2' : gP N kr 7 S = some S1 := q2
    rw [q1, q2', tb_l, bs]
    dsimp only
    unfold bT_X3_readExpression_19 bT_X3_readExpression_34
    rw [if_neg (by decide), gd_k hP.k7, nn_s q6.r70, gd_k q6.k1, q6.tok]
    exact EOk.fr (ex_lp1 hw (by omega) hkr hE N N M1 S1 r1 rc1 cc1 a1 0 (by omega) (by omega) (by omega) q6 hh (by omega) hT (by omega)) q5 (by omega)
  · right
    have q' : FB z b bn K0 M S (8010 + 3 * kr) (gB N kc 5 (z + 7) (nI 2) (nI w) K M) (gP N kr 7 S) := q
    refine (q'.go (n' := 8010 + 3 * (kr + 1)) (fun f S1 d => ⟨S1, ?_, d.le (by omega)⟩))
    obtain ⟨n', rfl⟩ : ∃ m, N = m + 1 := ⟨N - 1, by omega⟩
    rw [lM_sum_4, d_isS d.1, bs]; dsimp only
    rw [if_pos rfl, d_isS d.1, bs]; dsimp only
    rw [if_pos rfl]; rfl
theorem lv0 (hw : w ≤ 10) (hN : 4010 < N) (hkr : kr ≤ 150) (hE : HLx N z b bn sm size t nd nu nm iu ex K0 K 1 w kc kr) : HLx N z b bn sm size t nd nu nm iu ex K0 K 0 w (kc + 1) (kr + 1) := by
  intro M S mk h tl r rc cc a v rv hP hh hr hT hrv
  have ht := hP.t4
  rw [uB_5, uP_5]
  have cl : fT_X3_readExpression N (gB N kc) (z + 7) (nI 0) (nI w) K M = tb (gB N kc 5 (z + 7) (nI 1) (nI w) K M) fun o16 => (bT_X3_readExpression_19 N (gB N kc)) (z + 7) 0 (nI w) o16.1 o16.2 := by
    unfold fT_X3_readExpression
    rw [if_pos (by decide), gd_k hP.k7]
    rfl
  rw [cl]
  unfold fM_expression
  rcases hE M S mk h tl r rc cc a v rv hP (by omega) hr hT hrv with ⟨M1, S1, rc1, cc1, a1, r1, q1, q2, q3, q4, q5, q6⟩ | q
  · have q2' : gP N kr 6 S = some S1 := q2
    have ht1 := q6.t4
    rw [q1, q2', tb_l, bs]
    dsimp only
    obtain ⟨n, rfl⟩ : ∃ m, N = m + 2 := ⟨N - 2, by omega⟩
    generalize hNN : n + 2 = N at *
    have l38 : ∀ G K94 i M', lT_X3_readExpression_38 N G K94 N (z + 7) 0 (nI w) 1 i K M' = lT_X3_readExpression_38 N G K94 (n + 2) (z + 7) 0 (nI w) 1 i K M' := fun _ _ _ _ => by rw [hNN]
    unfold bT_X3_readExpression_19 bT_X3_readExpression_34
    rw [if_pos rfl, l38, lT_X3_readExpression_38, if_neg (by decide), gd_k hP.k7, j_0, bs, q6.kn]
    dsimp only
    have s60 : fM_isSign N 60 S1 = _ := q6.isS N (c := 60) (by decide) (by decide)
    have s61 : fM_isSign N 61 S1 = _ := q6.isS N (c := 61) (by decide) (by decide)
    have step : ∀ c o : Nat, cI M1 (z + 3) a1 = nI c → c ≠ 0 → c < 200 → (18 ≤ o ∧ o ≤ 24) → (∀ S', cw bn S' (o, 0, 0) = wd (nI c) 0 0) → (∀ cf, rfd cf (o, 0, 0) = (nI o, 0, 0)) → EOk z b bn sm size t nd nu nm iu ex K0 K M S mk (h + 1) tl a (v + 1) rv w (7 * (10 - w) + (4 - 0)) (8010 + 3 * (kr + 1)) ((fC_X3_moveTo N K (z + 7) (cI M1 (z + 7) 2 + 1) M1).bind fun o68 => tb (gB N kc 5 (z + 7) (0 + 1) (nI w) K o68) fun o76 => (bT_X3_readExpression_79 N (gB N kc) (lT_X3_readExpression_38 N (gB N kc) (bT_X3_readExpression_94 N (gB N kc)) (n + 1)) (bT_X3_readExpression_94 N (gB N kc))) (z + 7) 0 (nI w) 1 0 (cI M1 (z + 3) a1) o76.1 o76.2) ((gP N kr 6 (pF S1 7 (mF S1 7 + 1))).bind fun o35 => (bM_expression_50 N (gP N kr)) (nI o) o35) := fun c o hk hc0 hc1 ho hcw hro => by
      have hl : a1 < t := q6.2.2.1.lt (by rw [hk]; exact fun q => hc0 ((nI_eq (b := 0) (by omega) (by decide)).mp q))
      rw [q6.mvC N hl, bs, q6.m7, nI_1]
      unfold bM_expression_50 bM_expression_56
      rcases js q6 hw (lv := 0) hh (by decide) hT (by omega) hl (by omega) (by omega) hE ho hcw hro with ⟨M2, S2, M3, S3, rc2, cc2, a2, p1, p2, p3, p4, p5, p6, p7⟩ | q
      · have p1' : gB N kc 5 (z + 7) (0 + 1) (nI w) K (mv z M1 (a1 + 1)) = some (.inl (K, M2)) := p1
        have p2' : gP N kr 6 (pF S1 7 (nI (a1 + 1))) = some S2 := p2
        rw [p1', p2', tb_l, bs, p4, bs]
        dsimp only
        unfold bT_X3_readExpression_79 bT_X3_readExpression_87
        rw [gd_k hP.k7, hk, p3, ta_l]
        dsimp only
        rw [lT_X3_readExpression_38, if_pos (by decide)]
        exact Or.inl ⟨M3, S3, rc2 + 1, cc2 + 1, a2, _, rfl, rfl, by omega, Nat.le_refl _, q5.tr p6, p7⟩
      · right
        have q' : FB z b bn K0 M1 S1 (8010 + 3 * kr) (gB N kc 5 (z + 7) (0 + 1) (nI w) K (mv z M1 (a1 + 1))) (gP N kr 6 (pF S1 7 (nI (a1 + 1)))) := q
        refine ((q'.go (n' := 8010 + 3 * (kr + 1)) (fun f S1 d => ?_))).fr q5
        obtain ⟨r1, S2, g1, g2, g3⟩ := d.em hP.1.1 hP.1.2.1 (by omega) N (nI o) 0 0
        refine ⟨S2, ?_, g3.le (by omega)⟩
        rw [g2, bs]
    by_cases k60 : cI M1 (z + 3) a1 = nI 60
    · rw [if_pos (show cI M1 (z + 3) a1 = 60 ∨ cI M1 (z + 3) a1 = 61 from Or.inl k60), if_neg (by decide), s60, bs]; dsimp only
      rw [if_pos k60, if_neg (by decide)]
      unfold bM_expression_24
      have := step 60 23 k60 (by decide) (by decide) (by decide) (fun _ => rfl) (fun _ => rfl)
      exact this
    by_cases k61 : cI M1 (z + 3) a1 = nI 61
    · rw [if_pos (show cI M1 (z + 3) a1 = 60 ∨ cI M1 (z + 3) a1 = 61 from Or.inr k61), if_neg (by decide), s60, bs]; dsimp only
      rw [if_neg k60, if_pos rfl, s61, bs]; dsimp only
      rw [if_pos k61, if_neg (by decide)]
      unfold bM_expression_24
      have := step 61 24 k61 (by decide) (by decide) (by decide) (fun _ => rfl) (fun _ => rfl)
      exact this
    · rw [if_neg (show ¬ (cI M1 (z + 3) a1 = 60 ∨ cI M1 (z + 3) a1 = 61) from fun q => q.elim k60 k61), if_pos rfl, s60, bs]; dsimp only
      rw [if_neg k60, if_pos rfl, s61, bs]; dsimp only
      rw [if_neg k61, if_pos rfl]
      exact Or.inl ⟨M1, S1, rc1, cc1, a1, r1, rfl, rfl, by omega, by omega, q5, q6⟩
  · right
    have q' : FB z b bn K0 M S (8010 + 3 * kr) (gB N kc 5 (z + 7) (nI 1) (nI w) K M) (gP N kr 6 S) := q
    refine (q'.go (n' := 8010 + 3 * (kr + 1)) (fun f S1 d => ⟨S1, ?_, d.le (by omega)⟩))
    rw [d_isS d.1, bs]; dsimp only
    rw [if_pos rfl, d_isS d.1, bs]; dsimp only
    rw [if_pos rfl]; rfl
/-- expressions and parts at every depth -/
theorem ex_ok (hN : 4010 < N) : ∀ q w, w + q = 10 → ∀ kc kr, 5 * q + 5 ≤ kc → 5 * q + 5 ≤ kr → kr ≤ 150 → HLx N z b bn sm size t nd nu nm iu ex K0 K 0 w kc kr ∧ HPx N z b bn sm size t nd nu nm iu ex K0 K w (kc - 4) (kr - 3) := by
  intro q
  induction q with
  | zero =>
    intro w hw kc kr h1 h2 h3
    have hp : ∀ kc' kr', kr' ≤ 150 → HPx N z b bn sm size t nd nu nm iu ex K0 K w (kc' + 1) (kr' + 2) := fun kc' kr' h => part_ok (by omega) (by omega) h (fun q => by omega) (fun q => by omega)
    obtain ⟨kc, rfl⟩ : ∃ k, kc = k + 5 := ⟨kc - 5, by omega⟩
    obtain ⟨kr, rfl⟩ : ∃ k, kr = k + 5 := ⟨kr - 5, by omega⟩
    refine ⟨lv0 (by omega) hN (by omega) (lv1 (by omega) hN (by omega) (lv2 (by omega) hN (by omega) (lv3 (hp kc kr (by omega))))), ?_⟩
    have := hp kc kr (by omega)
    rw [show kc + 5 - 4 = kc + 1 by omega, show kr + 5 - 3 = kr + 2 by omega]
    exact this
  | succ q ih =>
    intro w hw kc kr h1 h2 h3
    have hp : ∀ kc' kr', 5 * q + 5 ≤ kc' → 5 * q + 5 ≤ kr' → kr' ≤ 147 → HPx N z b bn sm size t nd nu nm iu ex K0 K w (kc' + 1) (kr' + 2) := fun kc' kr' g1 g2 g3 => part_ok (by omega) (by omega) (by omega) (fun _ => (ih (w + 1) (by omega) kc' kr' g1 g2 (by omega)).1) (fun _ => by
      have := (ih (w + 1) (by omega) (kc' + 4) (kr' + 3) (by omega) (by omega) (by omega)).2
      rw [show kc' + 4 - 4 = kc' by omega, show kr' + 3 - 3 = kr' by omega] at this
      exact this)
    obtain ⟨kc, rfl⟩ : ∃ k, kc = k + 5 := ⟨kc - 5, by omega⟩
    obtain ⟨kr, rfl⟩ : ∃ k, kr = k + 5 := ⟨kr - 5, by omega⟩
    refine ⟨lv0 (by omega) hN (by omega) (lv1 (by omega) hN (by omega) (lv2 (by omega) hN (by omega) (lv3 (hp kc kr (by omega) (by omega) (by omega))))), ?_⟩
    have := hp kc kr (by omega) (by omega) (by omega)
    rw [show kc + 5 - 4 = kc + 1 by omega, show kr + 5 - 3 = kr + 2 by omega]
    exact this
end SUMS
