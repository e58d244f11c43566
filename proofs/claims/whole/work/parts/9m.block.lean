/-! BLOCKS and what holds them -/
def HSx (N z b bn sm size t nd nu nm iu : Nat) (ex : Nat → Nat → Prop) (K0 K : Ka) (w kc kr : Nat) : Prop := ∀ (M : Cm) (S : Ms) (mk : List Mk) (tl : List Nat) (r rc cc a v : Nat), PS z b bn sm size t nd nu nm iu ex K0 K M S mk (0, tl, r) rc cc a (v + 1) 0 w → r ≤ 90 → tl.length ≤ w → TCx mk tl (7 * (10 - w) + 7) → EOk z b bn sm size t nd nu nm iu ex K0 K M S mk 0 tl a (v + 1) 0 w (7 * (10 - w) + 7) (8010 + 3 * kr) (gB N kc 1 (z + 7) (nI w) 0 K M) (gP N kr 1 S)
def HBx (N z b bn sm size t nd nu nm iu : Nat) (ex : Nat → Nat → Prop) (K0 K : Ka) (w kc kr : Nat) : Prop := ∀ (M : Cm) (S : Ms) (mk : List Mk) (tl : List Nat) (r rc cc a v : Nat), PS z b bn sm size t nd nu nm iu ex K0 K M S mk (0, tl, r) rc cc a (v + 1) 0 w → r ≤ 90 → (w < 10 → tl.length ≤ w + 1 ∧ TCx mk tl (7 * (10 - w))) → EOk z b bn sm size t nd nu nm iu ex K0 K M S mk 0 tl (a + 1) (v + 3) 0 w (max r (7 * (10 - w))) (8010 + 3 * kr) (gB N kc 0 (z + 7) (nI w) 0 K M) (gP N kr 0 S) ∧ (w = 10 → FB z b bn K0 M S (8010 + 3 * kr) (gB N kc 0 (z + 7) (nI w) 0 K M) (gP N kr 0 S))
theorem wI_cm (M : Cm) {a b : Nat} (h : a ≠ b) (k j : Nat) (v w : Int32) : wI (wI M a k v) b j w = wI (wI M b j w) a k v := by
  refine Prod.ext ?_ rfl
  funext x y
  show cI (wI (wI M a k v) b j w) x y = cI (wI (wI M b j w) a k v) x y
  simp only [cI_w]
  by_cases q : x = a ∧ y = k
  · rw [if_neg (show ¬ (x = b ∧ y = j) from fun e => h (by rw [← q.1, ← e.1])), if_pos q, if_pos q]
  · rw [if_neg q, if_neg q]
theorem mv_emC {z sm : Nat} {M : Cm} (hz : z + 174 ≤ sm) (c : Nat) (x : Int64) (j : Nat) : mv z (emC M sm c x) j = emC (mv z M j) sm c x := by
  unfold mv emC
  have e : cI (wI (wL M (sm + 10) c x) sm 13 (nI (c + 1))) (z + 3) j = cI M (z + 3) j := by rw [cI_wI_ne _ _ _ (by omega)]; rfl
  rw [e, wI_cm _ (show sm ≠ z + 7 by omega), wI_cm _ (show sm ≠ z + 7 by omega)]
  rfl
theorem both2 {P Q R : Prop} (h : Q) : (P ∨ Q) ∧ (R → Q) := ⟨Or.inr h, fun _ => h⟩
section BLOCK
variable {N z b bn sm size t nd nu nm iu : Nat} {ex : Nat → Nat → Prop} {K0 K : Ka} {M M' : Cm} {S S' : Ms} {mk : List Mk} {j : Jt} {rc cc a v rv dp w h kc kr lv : Nat} {tl : List Nat}
theorem bl_lp {R : Nat} (hw : w < 10) (hN : 4010 < N) (hkr : kr ≤ 160) (hR : 7 * (10 - w) ≤ R) (hR2 : R ≤ 90) (hS : HSx N z b bn sm size t nd nu nm iu ex K0 K (w + 1) kc kr) (hl : tl.length ≤ w + 1) (hT : TCx mk tl (7 * (10 - w))) : ∀ (n n' : Nat) (M : Cm) (S : Ms) (r rc cc a i : Nat), t < n + a → t + 1 < n' + a → i ≤ a → PS z b bn sm size t nd nu nm iu ex K0 K M S mk (0, tl, r) rc cc a (v + 1) 0 (w + 1) → r ≤ R →
    EOk z b bn sm size t nd nu nm iu ex K0 K M S mk 0 tl a (v + 3) 0 w R (8010 + 3 * (kr + 1)) (lT_X3_readBlock_37 N (gB N kc) (bT_X3_readBlock_70 N (gB N kc)) n (z + 7) (nI w) (nI i) K M) (lM_block_16 N (gP N kr) (bM_block_39 N (gP N kr)) n' S) := by
  intro n
  induction n with
  | zero => intro n' M S r rc cc a i h1 _ _ hP; have := hP.t4; omega
  | succ n ih =>
    intro n' M S r rc cc a i h1 h2 hi hP hr
    have ht := hP.t4
    have a2 := hP.2.2.2.2.2.2.2.2.2
    obtain ⟨n', rfl⟩ : ∃ m, n' = m + 1 := ⟨n' - 1, by omega⟩
    rw [lT_X3_readBlock_37, lM_block_16, gd_k hP.k7, nn_s hP.r70, gd_k hP.k1, hP.tok, if_neg (nI_ge (show i < t + 1 by omega) (by omega)), hP.kn, if_pos hP.f0]
    have s125 : fM_isSign N 125 S = _ := hP.isS N (c := 125) (by decide) (by decide)
    rw [s125, bs]
    dsimp only
    by_cases k : cI M (z + 3) a = nI 125
    · have hl2 : a < t := hP.2.2.1.lt (by rw [k]; decide)
      rw [if_pos (show cI M (z + 3) a = 125 from k), if_pos k, if_neg (by decide)]
      unfold bT_X3_readBlock_70 bT_X3_readBlock_76 bM_block_39
      rcases l_sign hP.2.2.1 N (c := 125) (by decide) (by decide) with ⟨-, g1, g2, g3⟩ | ⟨f, f1, f2, f3⟩
      · have g2' : fT_X3_take N (z + 7) 125 K M = some (.inl (K, mv z M (a + 1))) := g2
        have g3' : fM_takeSign N 125 S = some (pF S 7 (nI (a + 1))) := g3
        have h3 := (hP.tk (a' := a + 1) (by omega) (by omega)).dps w
        have e50 : mF (pF S 7 (nI (a + 1))) 50 = nI (w + 1) := hP.2.2.2.2.2.2.2.1
        rw [gd_k hP.k7, g2', tb_l, g3', bs, e50, sub1 w (by omega)]
        exact Or.inl ⟨_, _, rc, cc, a + 1, r, rfl, rfl, by omega, hr, (FR.mv _ _ hP.hz).tr (FR.pF (Or.inl rfl) _), h3.less (by omega)⟩
      · exfalso
        have f2' : fT_X3_take N (z + 7) 125 K M = some (.inr (K, wI M (z + 7) 5 (nI f))) := f2
        have this' : fT_X3_take N (z + 7) 125 K M = some (.inl (K, mv z M (a + 1))) := t_yes hP.2.2.1 N k hl2
        rw [this'] at f2'
        cases f2'
    · rw [if_neg (show ¬ cI M (z + 3) a = 125 from k), if_neg k, if_pos rfl, nI_1]
      rcases hS M S mk tl r rc cc a v hP (by omega) hl (by rw [show 7 * (10 - (w + 1)) + 7 = 7 * (10 - w) by omega]; exact hT) with ⟨M1, S1, rc1, cc1, a1, r1, q1, q2, q3, q4, q5, q6⟩ | q
      · rw [q1, q2, tb_l, bs]
        dsimp only
        unfold bT_X3_readBlock_64
        rw [nI_1]
        exact EOk.fr (ih n' M1 S1 r1 rc1 cc1 a1 (i + 1) (by omega) (by omega) (by omega) q6 (by omega)) q5 (by omega)
      · right
        refine (q.go (n' := 8010 + 3 * (kr + 1)) (fun f S1 d => ?_))
        obtain ⟨n', rfl⟩ : ∃ m, n' = m + 1 := ⟨n' - 1, by omega⟩
        refine ⟨_, ?_, (d.p50 (mF S1 50 - 1)).le (by omega)⟩
        rw [lM_block_16, if_neg d.1.n0]
        unfold bM_block_39
        rw [d_tS d.1, bs]
theorem blk_ok (hw : w ≤ 10) (hN : 4010 < N) (hkr : kr ≤ 160) (hS : w < 10 → HSx N z b bn sm size t nd nu nm iu ex K0 K (w + 1) kc kr) : HBx N z b bn sm size t nd nu nm iu ex K0 K w (kc + 1) (kr + 1) := by
  intro M S mk tl r rc cc a v hP hr hx
  have ht := hP.t4
  have hroom := hP.room
  have d50 : mF S 50 = nI w := hP.2.2.2.2.2.2.2.1
  rw [uB_0, uP_0]
  have s123 : fM_isSign N 123 S = _ := hP.isS N (c := 123) (by decide) (by decide)
  unfold fM_block fT_X3_readBlock
  rw [gd_k hP.k7, hP.kn, s123, bs]
  dsimp only
  have dead : ∀ f S1, DDs b bn rc S f S1 → mF S1 50 = nI w + 1 → ∃ S2, ((fM_takeSign N 123 S1).bind fun o13 => (lM_block_16 N (gP N kr) (bM_block_39 N (gP N kr)) N) o13) = some S2 ∧ DDs b bn (8010 + 3 * (kr + 1)) S f S2 := fun f S1 d e50 => by
    obtain ⟨n', rfl⟩ : ∃ m, N = m + 1 := ⟨N - 1, by omega⟩
    refine ⟨_, ?_, (d.p50 (mF S1 50 - 1)).le (by omega)⟩
    rw [d_tS d.1, bs, lM_block_16, if_neg d.1.n0]
    unfold bM_block_39
    rw [d_tS d.1, bs]
  by_cases k : cI M (z + 3) a = nI 123
  · rw [if_pos (show cI M (z + 3) a = 123 from k), if_pos k]
    have hl : a < t := hP.2.2.1.lt (by rw [k]; decide)
    by_cases hw2 : w < 10
    · obtain ⟨x1, x2⟩ := hx hw2
      unfold bT_X3_readBlock_14 bT_X3_readBlock_25 fM_within bM_within_26
      rw [if_pos (show nI w < 10 from nI_lt (b := 10) hw2 (by decide)), gd_k hP.k7, hP.mvC N hl, bs, if_neg (by decide), d50, if_neg (show ¬ nI w = 10 from fun q => by have := (nI_eq (b := 10) (by omega) (by decide)).mp q; omega), bs, nI_1]
      have h1 := hP.dps (w + 1)
      rcases l_sign h1.2.2.1 N (c := 123) (by decide) (by decide) with ⟨-, g1, g2, g3⟩ | ⟨f, f1, f2, f3⟩
      · have g3' : fM_takeSign N 123 (pF S 50 (nI (w + 1))) = some (pF (pF S 50 (nI (w + 1))) 7 (nI (a + 1))) := g3
        rw [g3', bs]
        have h2 := h1.tk (a' := a + 1) (by omega) (by omega)
        have h2' : PS z b bn sm size t nd nu nm iu ex K0 K (mv z M (a + 1)) (pF (pF S 50 (nI (w + 1))) 7 (nI (a + 1))) mk (0, tl, r) rc cc (a + 1) (v + 1) 0 (w + 1) := h2.less (by omega)
        refine ⟨?_, fun e => absurd e (by omega)⟩
        exact EOk.fr (bl_lp (R := max r (7 * (10 - w))) hw2 hN hkr (Nat.le_max_right _ _) (by omega) (hS hw2) x1 x2 N N _ _ r rc cc (a + 1) 0 (by omega) (by omega) (by omega) h2' (Nat.le_max_left _ _)) ((FR.pF (Or.inl rfl) _).tr (FR.mv _ _ hP.hz)) (by omega)
      · exfalso
        have f2' : fT_X3_take N (z + 7) 123 K M = some (.inr (K, wI M (z + 7) 5 (nI f))) := f2
        have this' : fT_X3_take N (z + 7) 123 K M = some (.inl (K, mv z M (a + 1))) := t_yes hP.2.2.1 N k hl
        rw [this'] at f2'
        cases f2'
    · have e10 : w = 10 := by omega
      subst e10
      refine both2 ?_
      obtain ⟨f, f1, f2, f3⟩ := rf_nI hP.2.2.1 N (w := 5) (by omega) (by omega)
      have f2' : fT_X3_refuse N (z + 7) 5 K M = some (.inr (K, wI M (z + 7) 5 (nI f))) := f2
      have f3' : fM_wrong N 5 S = some (pF S 8 (nI f)) := f3
      have d := (hP.dds f1).p50 (nI 10 + 1)
      obtain ⟨S2, g1, g2⟩ := dead f _ d rfl
      refine hP.fb f1 ?_ (S' := S2) ?_ g2
      · unfold bT_X3_readBlock_14
        rw [if_neg (by decide), gd_k hP.k7, f2', tb_r]
      · unfold fM_within bM_within_26
        rw [if_neg (by decide), d50, if_pos (by decide), f3', bs, bs]
        have e50 : mF (pF S 8 (nI f)) 50 = nI 10 := d50
        rw [e50, g1]
  · rw [if_neg (show ¬ cI M (z + 3) a = 123 from k), if_neg k]
    refine both2 ?_
    obtain ⟨f, f1, f2, f3⟩ := rf_nI hP.2.2.1 N (w := 1) (by omega) (by omega)
    have f2' : fT_X3_refuse N (z + 7) 1 K M = some (.inr (K, wI M (z + 7) 5 (nI f))) := f2
    have f3' : fM_wrong N 1 S = some (pF S 8 (nI f)) := f3
    have d := (hP.dds f1).p50 (nI w + 1)
    obtain ⟨S2, g1, g2⟩ := dead f _ d rfl
    refine hP.fb f1 (by rw [f2', tb_r]) (S' := S2) ?_ g2
    unfold fM_within bM_within_26
    rw [if_pos rfl, f3', bs, bs]
    have e50 : mF (pF S 8 (nI f)) 50 = nI w := d50
    rw [e50, g1]
theorem gd0' (N : Nat) (hN : 1 < N) {k : Nat} (hk : 1 ≤ k) {S : Ms} {f : Nat} (h : DS S f) : gP N k 0 S = some S := by
  obtain ⟨k, rfl⟩ : ∃ k', k = k' + 1 := ⟨k - 1, by omega⟩
  exact gd0 h N hN k
/-- an expression and the jump behind it -/
theorem cond_ok (hP : PS z b bn sm size t nd nu nm iu ex K0 K M S mk (0, tl, 0) rc cc a (v + 1) 0 w) (hT : TCx mk tl (7 * (10 - w) + 7)) (hw : w ≤ 10) (hN : 4010 < N) (hkr : kr ≤ 160) (hE : HLx N z b bn sm size t nd nu nm iu ex K0 K 0 w kc kr) :
    (∃ M1 S1 M2 S2 rc1 cc1 a1, gB N kc 5 (z + 7) 0 (nI w) K M = some (.inl (K, M1)) ∧ gP N kr 5 S = some S1 ∧ fT_X3_emit N (z + 7) 17 0 0 K M1 = some (.inl (nI cc1, K, M2)) ∧ fM_emit N 11 0 0 S1 = some (nI rc1, S2) ∧ rc1 < 10000 ∧ a < a1 ∧ FR z b sm K0 M M2 S S2 ∧ PS z b bn sm size t nd nu nm iu ex K0 K M2 S2 ((rc1, cc1, (28, 0, 0), (1, tl, 7 * (10 - w) + 4)) :: mk) (0, tl, 7 * (10 - w) + 5) (rc1 + 1) (cc1 + 1) a1 v 0 w) ∨
    FB z b bn K0 M S (8010 + 3 * kr) (gB N kc 5 (z + 7) 0 (nI w) K M) (gP N kr 5 S) := by
  rcases hE M S mk 0 tl 0 rc cc a v 0 hP (by omega) (by omega) (hT.le (by omega)) (Or.inl rfl) with ⟨M1, S1, rc1, cc1, a1, r1, q1, q2, q3, q4, q5, q6⟩ | q
  · left
    have hr := q6.room
    obtain ⟨h3, f3⟩ := q6.em (x := (28, 0, 0)) (ρ := 7 * (10 - w) + 4) (by decide) (by decide) (by decide) (EMC.mk' (by omega) (VO.triv (by decide)) (by decide) (by decide) (by decide) (by decide) (by omega) (hT.le (by omega)))
    exact ⟨M1, S1, _, _, rc1, cc1, a1, q1, q2, q6.wC N _ _ _, q6.wS N _ _ _, by omega, q3, q5.tr f3, h3⟩
  · exact Or.inr q
/-- while -/
theorem s_while {r : Nat} (hP : PS z b bn sm size t nd nu nm iu ex K0 K M S mk (0, tl, r) rc cc a (v + 1) 0 w) (hr : r ≤ 90) (hT : TCx mk tl (7 * (10 - w) + 7)) (hlen : tl.length ≤ w) (hw : w ≤ 10) (hk : cI M (z + 3) a = 148) (hN : 4010 < N) (hkr : kr ≤ 160) (hkr1 : 1 ≤ kr) (hE : HLx N z b bn sm size t nd nu nm iu ex K0 K 0 w kc kr) (hB : HBx N z b bn sm size t nd nu nm iu ex K0 K w kc kr) :
    EOk z b bn sm size t nd nu nm iu ex K0 K M S mk 0 tl a (v + 1) 0 w (7 * (10 - w) + 7) (8010 + 3 * (kr + 1)) (fT_X3_readStatement N (gB N (kc + 1)) (z + 7) (nI w) K M) (fM_statement N (gP N kr) S) := by
  have ht := hP.t4
  have hroom := hP.room
  obtain ⟨hl, r20⟩ := hP.yW N (c := 20) (by decide) hk
  have r20' : fM_hasWord N 20 S = some (1, pF S 7 (nI (a + 1))) := r20
  have h1 := hP.tk (a' := a + 1) (by omega) (by omega)
  have h1' : PS z b bn sm size t nd nu nm iu ex K0 K (mv z M (a + 1)) (pF S 7 (nI (a + 1))) mk (0, tl, r) rc cc (a + 1) (v + 2 + 1) 0 w := h1.less (by omega)
  obtain ⟨h2, f2⟩ := h1'.em (x := (1, 0, 0)) (ρ := 90) (by decide) (by decide) (by decide) (EMC.st hr (by decide) hT.1 (hT.le (by omega)))
  have h2' : PS z b bn sm size t nd nu nm iu ex K0 K (emC (mv z M (a + 1)) sm cc (wd 1 0 0)) (emS (pF S 7 (nI (a + 1))) (10000 * bn + rc) rc 1 0 0) ((rc, cc, (1, 0, 0), (0, tl, 90)) :: mk) (0, tl, 0) (rc + 1) (cc + 1) (a + 1) (v + 1 + 1) 0 w := h2
  have f2' : FR z b sm K0 (mv z M (a + 1)) (emC (mv z M (a + 1)) sm cc (wd 1 0 0)) (pF S 7 (nI (a + 1))) (emS (pF S 7 (nI (a + 1))) (10000 * bn + rc) rc 1 0 0) := f2
  have fr := (FR.mv (z := z) (b := b) (sm := sm) (K0 := K0) (M := M) (S := S) (a + 1) (nI (a + 1)) hP.hz).tr f2'
  have emv : mv z (emC M sm cc (wd 1 0 0)) (a + 1) = emC (mv z M (a + 1)) sm cc (wd 1 0 0) := mv_emC hP.hz _ _ _
  have k1 : cI (emC M sm cc (wd 1 0 0)) (z + 3) a = 148 := by rw [emC_I (by have := hP.hz; omega)]; exact hk
  have k2 : cI (emC M sm cc (wd 1 0 0)) (z + 7) 3 = 148 := by rw [emC_I (by have := hP.hz; omega), hP.kn]; exact hk
  have a7 : cI (emC M sm cc (wd 1 0 0)) (z + 7) 2 = nI a := by rw [emC_I (by have := hP.hz; omega)]; exact hP.at
  have mv1 : fC_X3_moveTo N K (z + 7) (nI (a + 1)) (emC M sm cc (wd 1 0 0)) = some (mv z (emC M sm cc (wd 1 0 0)) (a + 1)) := by
    have p := (hP.2.2.1.em (sm := sm) hP.hz 0 0 cc (wd 1 0 0) 0 0 0)
    exact mv_ok p.1 p.2.1 N (by omega)
  have cls : fT_X3_readStatement N (gB N (kc + 1)) (z + 7) (nI w) K M = tb (tb (gB N kc 5 (z + 7) 0 (nI w) K (emC (mv z M (a + 1)) sm cc (wd 1 0 0))) fun o13 => (bT_X3_readWhile_16 N (gB N kc)) (z + 7) (nI w) (nI cc) o13.1 o13.2) fun o251 => (bT_X3_readStatement_254 N (gB N (kc + 1))) (z + 7) o251.1 o251.2 := by
    unfold fT_X3_readStatement
    rw [gd_k hP.k7, hP.wC N, ta_l]
    dsimp only
    unfold bT_X3_readStatement_7
    rw [gd_k hP.k7, k2, if_neg (by decide), if_neg (by decide), if_neg (by decide), if_neg (by decide), if_neg (by decide), if_neg (by decide), if_pos rfl, uB_3]
    unfold fT_X3_readWhile
    rw [gd_k hP.k7, a7, nI_1, mv1, bs, emv]
  have ref : fM_statement N (gP N kr) S = ((gP N kr 5 (emS (pF S 7 (nI (a + 1))) (10000 * bn + rc) rc 1 0 0)).bind fun o18 => (fM_emit N 11 0 0 o18).bind fun o26 => (gP N kr 0 o26.2).bind fun o31 => (fM_emit N 10 ((mF o31 42) + nI rc) 0 o31).bind fun o44 => (fM_here N o26.1 o44.2).bind fun o50 => some o50) := by
    unfold fM_statement
    rw [r20', bs]; dsimp only
    rw [if_neg (by decide), h1.wS N, bs]
  rw [cls, ref]
  refine EOk.fr (a := a + 1) ?_ fr (by omega)
  rcases cond_ok h2' (hT.cons _) hw hN hkr hE with ⟨M3, S3, M4, S4, rc3, cc3, a3, q1, q2, q3, q4, q4b, q5, q6, q7⟩ | q
  · rw [q1, q2, tb_l, bs, q4, bs]
    dsimp only
    unfold bT_X3_readWhile_16 bT_X3_readWhile_24
    rw [gd_k hP.k7, q3, ta_l]
    dsimp only
    rw [gd_k hP.k7]
    have q7' : PS z b bn sm size t nd nu nm iu ex K0 K M4 S4 ((rc3, cc3, (28, 0, 0), (1, tl, 7 * (10 - w) + 4)) :: (rc, cc, (1, 0, 0), (0, tl, 90)) :: mk) (0, tl, 7 * (10 - w) + 5) (rc3 + 1) (cc3 + 1) a3 (v + 1) 0 w := q7
    rcases (hB M4 S4 _ tl _ _ _ a3 v q7' (by omega) (fun _ => ⟨by omega, ((hT.cons _).cons _).le (by omega)⟩)).1 with ⟨M5, S5, rc5, cc5, a5, r5, p1, p2, p3, p4, p5, p6⟩ | q
    · have hr5 : r5 ≤ 7 * (10 - w) + 5 := by omega
      have p6' : PS z b bn sm size t nd nu nm iu ex K0 K M5 S5 ((rc3, cc3, (28, 0, 0), (1, tl, 7 * (10 - w) + 4)) :: (rc, cc, (1, 0, 0), (0, tl, 90)) :: mk) (0, tl, r5) rc5 cc5 a5 (v + 2 + 1) 0 w := p6
      obtain ⟨x1, x2⟩ := p6'.emJ (k := rc) (ck := cc) (List.mem_cons_of_mem _ (List.mem_cons_self ..)) (ρ := 7 * (10 - w) + 5) hr5 (Nat.zero_le _) (by omega) (((hT.cons _).cons _).le (by omega))
      obtain ⟨y1, y2, y3, y4⟩ := PS.aim (l1 := []) x2 (Or.inl rfl) rfl rfl N
      rw [p1, p2, tb_l, bs]
      dsimp only
      unfold bT_X3_readWhile_30 bT_X3_readWhile_38
      have m42 : mF S5 42 = nI (10000 * bn) := p6.2.1.2.2.2.1
      rw [gd_k hP.k7, p6.wC N, ta_l, m42, nI_add, p6.wS N, bs]
      dsimp only
      rw [gd_k hP.k7, nn_s x2.r71, gd_k hP.ks, y1, bs, y2, bs, tb_l]
      refine Or.inl ⟨_, _, rc5 + 1, cc5 + 1, a5, _, rfl, rfl, by omega, ?_, ((q6.tr p5).tr x1).tr y3, (y4.drop (by show (1 : Nat) < 28; decide)).less (by omega)⟩
      show max 0 (7 * (10 - w) + 4 + 1) ≤ _
      omega
    · right
      have q8 := (q.go (β := Ka × Cm) (k := fun o27 => bT_X3_readWhile_30 N (gB N kc) (z + 7) (nI cc) (nI cc3) o27.1 o27.2) (r := fun o31 => (fM_emit N 10 ((mF o31 42) + nI rc) 0 o31).bind fun o44 => (fM_here N (nI rc3) o44.2).bind fun o50 => some o50) (n' := 8010 + 3 * (kr + 1)) (fun f S5 d => by
        obtain ⟨r, S6, g1, g2, g3⟩ := d.em hP.1.1 hP.1.2.1 (by omega) N 10 (mF S5 42 + nI rc) 0
        obtain ⟨S7, g4, g5⟩ := g3.here hP.1.1 hP.1.2.1 q4b N
        exact ⟨S7, by rw [g2, bs, g4, bs], g5.le (by omega)⟩)).fr q6
      obtain ⟨f, K', M', S', z1, z2, z3⟩ := q8
      exact ⟨f, K', M', S', z1, by rw [z2, tb_r], z3⟩
  · right
    have q8 := (q.go (β := Ka × Cm) (k := fun o13 => bT_X3_readWhile_16 N (gB N kc) (z + 7) (nI w) (nI cc) o13.1 o13.2) (r := fun o18 => (fM_emit N 11 0 0 o18).bind fun o26 => (gP N kr 0 o26.2).bind fun o31 => (fM_emit N 10 ((mF o31 42) + nI rc) 0 o31).bind fun o44 => (fM_here N o26.1 o44.2).bind fun o50 => some o50) (n' := 8010 + 3 * (kr + 1)) (fun f S5 d => by
      obtain ⟨r, S6, g1, g2, g3⟩ := d.em hP.1.1 hP.1.2.1 (by omega) N 11 0 0
      obtain ⟨r', S7, g1', g2', g3'⟩ := g3.em hP.1.1 hP.1.2.1 (by omega) N 10 (mF S6 42 + nI rc) 0
      obtain ⟨S8, g4, g5⟩ := g3'.here hP.1.1 hP.1.2.1 (show r < 10000 by omega) N
      exact ⟨S8, by rw [g2, bs]; dsimp only; rw [gd0' N (by omega) hkr1 g3.1, bs, g2', bs, g4, bs], g5.le (by omega)⟩))
    obtain ⟨f, K', M', S', z1, z2, z3⟩ := q8
    exact ⟨f, K', M', S', z1, by rw [z2, tb_r], z3⟩
end BLOCK
