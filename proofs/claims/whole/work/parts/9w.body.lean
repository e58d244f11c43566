/-! a unit's body -/
/-- on what a unit's head leans -/
def LNx (S : Ms) (i w : Nat) : Prop := mA S 22 i = nI w ∨ ∃ k nr, mA S 23 i = nI nr ∧ nr ≤ 6 ∧ k < nr ∧ mA S 24 (6 * i + k) = nI w
/-- a unit's head in range -/
def HD (S : Ms) (i u : Nat) : Prop := (mA S 22 i = -1 ∨ ∃ v, v < u ∧ mA S 22 i = nI v) ∧ ∃ nr, nr ≤ 6 ∧ mA S 23 i = nI nr ∧ ∀ k, k < nr → ∃ r, r < u ∧ mA S 24 (6 * i + k) = nI r
/-- the leans of the head told -/
def LN (S S' : Ms) (i : Nat) : Prop := mF S' = mF S ∧ mL S' = mL S ∧ (∀ k, k ≠ 34 → mA S' k = mA S k) ∧ (∀ w, LNx S i w → w < 24 → mA S' 34 (24 * i + w) = 1) ∧ ∀ q, mA S' 34 q = mA S 34 q ∨ (mA S' 34 q = 1 ∧ ∃ w, w < 24 ∧ q = 24 * i + w ∧ LNx S i w)
theorem HD.t5 {S S' : Ms} {i u : Nat} (h : HD S i u) (hT : T5 S S') : HD S' i u := by
  unfold HD at h ⊢
  rw [hT 22 (by decide) (by decide), hT 23 (by decide) (by decide), hT 24 (by decide) (by decide)]
  exact h
theorem LNx.ag {S S' : Ms} {i w : Nat} (hT : ∀ k, 22 ≤ k → k ≤ 24 → mA S' k = mA S k) : LNx S' i w ↔ LNx S i w := by
  unfold LNx
  rw [hT 22 (by decide) (by decide), hT 23 (by decide) (by decide), hT 24 (by decide) (by decide)]
theorem HD.uq {S : Ms} {i u nr nr' : Nat} (h : nr ≤ 6) (h' : nr' ≤ 6) (e : mA S 23 i = nI nr) (e' : mA S 23 i = nI nr') : nr = nr' := (nI_eq (by omega) (by omega)).mp (e.symm.trans e')
theorem l394 (N : Nat) {i u nr : Nat} (hi : i < 48) (hu : u < 24) (hnr : nr ≤ 6) : ∀ (m x n : Nat) (S : Ms), x + m = nr → m < n → mA S 23 i = nI nr → (∀ k, k < nr → ∃ r, r < u ∧ mA S 24 (6 * i + k) = nI r) →
    ∃ S', lM_toldUnit_394 N (bM_toldUnit_434 N) n (nI i) (nI x) S = some S' ∧ mF S' = mF S ∧ mL S' = mL S ∧ (∀ k, k ≠ 34 → mA S' k = mA S k) ∧ (∀ k r, x ≤ k → k < nr → r < 24 → mA S 24 (6 * i + k) = nI r → mA S' 34 (24 * i + r) = 1) ∧ ∀ q, mA S' 34 q = mA S 34 q ∨ (mA S' 34 q = 1 ∧ ∃ k r, k < nr ∧ r < 24 ∧ mA S 24 (6 * i + k) = nI r ∧ q = 24 * i + r) := by
  intro m
  induction m with
  | zero =>
    intro x n S h1 h2 h3 _
    obtain ⟨n, rfl⟩ : ∃ k, n = k + 1 := ⟨n - 1, by omega⟩
    rw [lM_toldUnit_394, ck_n (by omega) (by decide), nI_clamp (by omega), h3, if_pos (nI_le (show nr ≤ x by omega) (by omega))]
    exact ⟨S, rfl, rfl, rfl, fun _ _ => rfl, fun k r g1 g2 _ _ => by omega, fun q => Or.inl rfl⟩
  | succ m ih =>
    intro x n S h1 h2 h3 h4
    obtain ⟨n, rfl⟩ : ∃ k, n = k + 1 := ⟨n - 1, by omega⟩
    obtain ⟨r, r1, r2⟩ := h4 x (by omega)
    have e6 : (6 : Int32) * nI i + nI x = nI (6 * i + x) := by rw [show (6 : Int32) = nI 6 from rfl, nI_mul, nI_add]
    have e24 : (24 : Int32) * nI i + nI r = nI (24 * i + r) := by rw [show (24 : Int32) = nI 24 from rfl, nI_mul, nI_add]
    rw [lM_toldUnit_394, ck_n (by omega) (by decide), nI_clamp (show i < 2 ^ 31 by omega), h3, if_neg (nI_ge (show x < nr by omega) (by omega)), e6, ck_n (show 6 * i + x < 288 by omega) (by decide), nI_clamp (show 6 * i + x < 2 ^ 31 by omega), r2, e24, ck_n (show 24 * i + r < 1152 by omega) (by decide), nI_clamp (show 24 * i + r < 2 ^ 31 by omega), nI_1, show vp_nar .boolean (1 : Int32) = 1 from rfl]
    have o : ∀ k, k ≠ 34 → mA (pA S 34 (24 * i + r) 1) k = mA S k := fun k hk => mA_Ane _ _ _ hk
    obtain ⟨S', q1, q2, q3, q4, q5, q6⟩ := ih (x + 1) n (pA S 34 (24 * i + r) 1) (by omega) (by omega) (by rw [o 23 (by decide)]; exact h3) (by rw [o 24 (by decide)]; exact h4)
    refine ⟨S', q1, q2, q3, fun k hk => (q4 k hk).trans (o k hk), fun k w g1 g2 g3 g4 => ?_, fun q => ?_⟩
    · rcases Nat.lt_or_ge x k with y | y
      · exact q5 k w (by omega) g2 g3 (by rw [o 24 (by decide)]; exact g4)
      · have ek : k = x := by omega
        subst ek
        have ew : w = r := (nI_eq (by omega) (by omega)).mp (g4.symm.trans r2)
        subst ew
        rcases q6 (24 * i + w) with y | y
        · rw [y, mA_A, if_pos ⟨rfl, rfl⟩]
        · exact y.1
    · rcases q6 q with y | ⟨y1, k, w, y2, y3, y4, y5⟩
      · rw [mA_A] at y
        by_cases hq : q = 24 * i + r
        · rw [if_pos ⟨rfl, hq⟩] at y
          exact Or.inr ⟨y, x, r, by omega, by omega, r2, hq⟩
        · rw [if_neg (fun z => hq z.2)] at y
          exact Or.inl y
      · rw [o 24 (by decide)] at y4
        exact Or.inr ⟨y1, k, w, y2, y3, y4, y5⟩
/-- the reference's leans at a unit's end -/
theorem l359 (N : Nat) (hN : 10 < N) {i u : Nat} (hi : i < 48) (hu : u < 24) {S : Ms} (h : HD S i u) : ∃ S', (ck (nI i) 48 (if (mA S 22 (nI i : Int32).toNatClampNeg) < 0 then ((bM_toldUnit_391 N) (nI i) S) else (ck (nI i) 48 (ck ((24 * nI i) + (mA S 22 (nI i : Int32).toNatClampNeg)) 1152 ((bM_toldUnit_391 N) (nI i) (pA S 34 ((24 * nI i) + (mA S 22 (nI i : Int32).toNatClampNeg) : Int32).toNatClampNeg (vp_nar .boolean 1))))))) = some S' ∧ LN S S' i := by
  obtain ⟨hb, nr, h1, h2, h3⟩ := h
  have c2 : ∀ {ρ : Type} (q : Option ρ), ck (nI i) 48 q = q := fun q => ck_n hi (by decide)
  rw [c2, c2, nI_clamp (show i < 2 ^ 31 by omega)]
  unfold bM_toldUnit_391
  rcases hb with y | ⟨v, v1, v2⟩
  · rw [y, if_pos (by decide)]
    obtain ⟨S', q1, q2, q3, q4, q5, q6⟩ := l394 N hi hu h1 nr 0 N S (by omega) (by omega) h2 h3
    refine ⟨S', q1, q2, q3, q4, fun w hw hw2 => ?_, fun q => ?_⟩
    · rcases hw with z | ⟨k, nr', z1, z2, z3, z4⟩
      · rw [y] at z
        exact absurd (show nI w < 0 by rw [← z]; decide) (nI_pos (by omega))
      · have := HD.uq (u := u) h1 z2 h2 z1
        exact q5 k w (by omega) (by omega) hw2 z4
    · rcases q6 q with z | ⟨z1, k, w, z2, z3, z4, z5⟩
      · exact Or.inl z
      · exact Or.inr ⟨z1, w, z3, z5, Or.inr ⟨k, nr, h2, h1, z2, z4⟩⟩
  · have e24 : (24 : Int32) * nI i + nI v = nI (24 * i + v) := by rw [show (24 : Int32) = nI 24 from rfl, nI_mul, nI_add]
    rw [v2, if_neg (nI_pos (by omega)), e24, ck_n (show 24 * i + v < 1152 by omega) (by decide), nI_clamp (show 24 * i + v < 2 ^ 31 by omega), show vp_nar .boolean (1 : Int32) = 1 from rfl]
    have o : ∀ k, k ≠ 34 → mA (pA S 34 (24 * i + v) 1) k = mA S k := fun k hk => mA_Ane _ _ _ hk
    obtain ⟨S', q1, q2, q3, q4, q5, q6⟩ := l394 N hi hu h1 nr 0 N (pA S 34 (24 * i + v) 1) (by omega) (by omega) (by rw [o 23 (by decide)]; exact h2) (by rw [o 24 (by decide)]; exact h3)
    refine ⟨S', q1, q2, q3, fun k hk => (q4 k hk).trans (o k hk), fun w hw hw2 => ?_, fun q => ?_⟩
    · rcases hw with z | ⟨k, nr', z1, z2, z3, z4⟩
      · rw [v2] at z
        have : v = w := (nI_eq (by omega) (by omega)).mp z
        subst this
        rcases q6 (24 * i + v) with y | y
        · rw [y, mA_A, if_pos ⟨rfl, rfl⟩]
        · exact y.1
      · have := HD.uq (u := u) h1 z2 h2 z1
        exact q5 k w (by omega) (by omega) hw2 (by rw [o 24 (by decide)]; exact z4)
    · rcases q6 q with z | ⟨z1, k, w, z2, z3, z4, z5⟩
      · rw [mA_A] at z
        by_cases hq : q = 24 * i + v
        · rw [if_pos ⟨rfl, hq⟩] at z
          exact Or.inr ⟨z, v, by omega, hq, Or.inl v2⟩
        · rw [if_neg (fun z => hq z.2)] at z
          exact Or.inl z
      · rw [o 24 (by decide)] at z4
        exact Or.inr ⟨z1, w, z3, z5, Or.inr ⟨k, nr, h2, h1, z2, z4⟩⟩
section BODY
variable {N z b bn sm size t nd nu nm iu u tu : Nat} {ex : Nat → Nat → Prop} {K0 K : Ka} {M M' M'' : Cm} {S S' S'' : Ms} {mk mk' : List Mk} {j : Jt} {rc cc a v rv dp n f : Nat}
theorem DDs.ln {S1 : Ms} (hb : b = 0 ∨ b = 1) (hbn : bn = 1 - b) (h : DDs b bn n S f S1) (hu : u < 24) (hl : LN S1 S' (24 * bn + u)) : DDs b bn n S f S' := by
  obtain ⟨h1, h2, h3, h4, r, h5, h6, h7⟩ := h
  obtain ⟨l1, l2, l3, l4, l5⟩ := hl
  refine ⟨⟨h1.1, by rw [l1]; exact h1.2⟩, h2.tr ⟨fun k _ => by rw [l1], fun k q hk => ?_, fun k q _ => by rw [l2]⟩, by rw [l1]; exact h3, by rw [l1]; exact h4, r, by rw [l1]; exact h5, h6, fun k k1 k2 => (l3 k (by omega)).trans (h7 k k1 k2)⟩
  by_cases y : k = 34
  · subst y
    rcases l5 q with y | ⟨-, w, w1, w2, -⟩
    · exact y
    · exact absurd hk (ob_n hb hbn (w := 576) rfl (by decide) (by omega) (by omega))
  · rw [l3 k y]
theorem d359 {S1 : Ms} (hb : b = 0 ∨ b = 1) (hbn : bn = 1 - b) (d : DDs b bn n S f S1) (hN : 10 < N) (hu : u < 24) (h : HD S (24 * bn + u) u) : ∃ S2, bM_toldUnit_359 N (nI (24 * bn + u)) S1 = some S2 ∧ DDs b bn n S f S2 := by
  have h7 := d.2.2.2.2
  obtain ⟨r, -, -, h7⟩ := h7
  obtain ⟨S2, q1, q2⟩ := l359 N hN (i := 24 * bn + u) (u := u) (by omega) hu (h.t5 h7)
  refine ⟨S2, ?_, d.ln hb hbn hu q2⟩
  unfold bM_toldUnit_359
  rw [d_tS d.1, bs]
  exact q1
theorem d306 {S1 : Ms} (hb : b = 0 ∨ b = 1) (hbn : bn = 1 - b) (d : DDs b bn n S f S1) (hn : n < 9900) (hN : 10 < N) (hu : u < 24) (h : HD S (24 * bn + u) u) : ∃ S2, bM_toldUnit_306 N (nI (24 * bn + u)) S1 = some S2 ∧ DDs b bn (n + 1) S f S2 := by
  obtain ⟨r, S2, g1, g2, g3⟩ := d.em hb hbn (by omega) N 0 0 0
  obtain ⟨S3, q1, q2⟩ := d359 (N := N) hb hbn g3 hN hu h
  refine ⟨S3, ?_, q2⟩
  unfold bM_toldUnit_306
  rw [g2, bs, ck_n (show 24 * bn + u < 48 by omega) (by decide)]
  dsimp only
  by_cases y : mA S2 20 (nI (24 * bn + u) : Int32).toNatClampNeg = 0
  · rw [if_pos y]; exact q1
  · rw [if_neg y, d_hW g3.1, bs]
    dsimp only
    rw [if_pos rfl]; exact q1
theorem FB.fi {α : Type} {c : Option (α ⊕ (Ka × Cm))} {o : Option Ms} (h : FB z b bn K0 M' S' n c o) (hf : FI z b sm tu K0 M M' S S') : FB z b bn K0 M S n c o :=
  h.pre hf.2.2.2.2.2.2.2.2.2.1 hf.2.2.2.2.2.2.2.2.2.2 (fun k k1 k2 => hf.2.2.2.2.2.2.2.1 k (by omega) (by omega) (by omega) (by omega))
theorem UA.hd (h : UA K M S bn sm u tu) : HD S (24 * bn + u) u := by
  obtain ⟨-, -, -, -, -, -, -, -, -, -, h1, nr, h2, h3, h4⟩ := h
  refine ⟨h1, nr, h2, h3, fun k hk => ?_⟩
  obtain ⟨r, r1, r2, -⟩ := h4 k hk
  exact ⟨r, r1, r2⟩
/-- an item that is a statement -/
theorem it_st {r : Nat} (hP : PS z b bn sm size t nd nu nm iu ex K0 K M S mk (0, [], r) rc cc a (v + 1) 0 0) (hr : r ≤ 90) (h1 : tu ≠ z + 7) (h2 : sm + 11 ≤ tu) (k12 : cI M (z + 3) a ≠ nI 140) (k13 : cI M (z + 3) a ≠ nI 141) (hN : 4010 < N) (x1 : Int32) :
    IO z b bn sm size t nd nu nm iu tu ex K0 K M S mk a (v + 1) (fGT_X3_readStatement N (z + 7) 0 K M) (fM_item N x1 S) := by
  have ref : fM_item N x1 S = gP N 120 1 S := by
    have w12 : fM_isWord N 12 S = some (0, S) := by
      rcases k_word hP.2.2.1 N (w := 12) (by decide) with y | y
      · exact absurd y.1 k12
      · exact y.2
    have w13 : fM_isWord N 13 S = some (0, S) := by
      rcases k_word hP.2.2.1 N (w := 13) (by decide) with y | y
      · exact absurd y.1 k13
      · exact y.2
    unfold fM_item
    rw [w12, bs]
    dsimp only
    rw [if_pos rfl, w13, bs]
    dsimp only
    rw [if_pos rfl]
    show (gP N 120 1 S).bind some = _
    cases gP N 120 1 S <;> rfl
  rw [ref]
  have hS := (sb_ok (N := N) (z := z) (b := b) (bn := bn) (sm := sm) (size := size) (t := t) (nd := nd) (nu := nu) (nm := nm) (iu := iu) (ex := ex) (K0 := K0) (K := K) hN 10 0 rfl).2 150 120 (by decide) (by decide) (by decide)
  rcases hS M S mk [] r rc cc a v hP hr (by decide) ⟨by decide, Or.inl rfl⟩ with ⟨M2, S2, rc2, cc2, a2, r2, w1, w2, w3, w4, w5, w6⟩ | w
  · exact Or.inl ⟨M2, S2, rc2, cc2, a2, r2, w1, w2, w3, by omega, w5.fi h1 h2, w6⟩
  · exact Or.inr (w.le (by omega))
/-- how the items end -/
def UBo (N z b bn sm size t nd nu nm u tu : Nat) (ex : Nat → Nat → Prop) (K0 K : Ka) (M : Cm) (S : Ms) (mk : List Mk) (a v : Nat) (c : Option ((Ka × Cm) ⊕ (Ka × Cm))) (o : Option Ms) : Prop :=
  (∃ M' S' rc' cc' a' r', c = bT_X3_readUnit_163 N (z + 7) tu K M' ∧ o = bM_toldUnit_306 N (nI (24 * bn + u)) S' ∧ a ≤ a' ∧ r' ≤ 90 ∧ FI z b sm tu K0 M M' S S' ∧ PS z b bn sm size t nd nu nm (u + 1) ex K0 K M' S' mk (0, [], r') rc' cc' a' v 0 0 ∧ (cI M' (z + 3) a' = nI 125 ∨ (cI M' (z + 3) a' = nI 139 ∧ mA S' 20 (24 * bn + u) ≠ 0))) ∨ FB z b bn K0 M S 9100 c o
theorem FI.rf (z b sm tu : Nat) (K0 : Ka) (M : Cm) (S : Ms) : FI z b sm tu K0 M M S S := ⟨fun _ _ _ _ _ _ _ => rfl, fun _ _ _ => rfl, fun _ _ _ => rfl, rfl, fun _ _ _ => rfl, fun _ _ => rfl, fun _ _ _ _ _ _ _ => rfl, fun _ _ _ _ _ => rfl, fun _ _ => rfl, AgA.rf _ _ _, AgO.rf _ _⟩
/-- a role does not close -/
theorem ro_cl {r : Nat} (hP : PS z b bn sm size t nd nu nm iu ex K0 K M S mk (0, [], r) rc cc a (v + 1) 0 0) (hr : r ≤ 90) (hk : cI M (z + 3) a = nI 139) (hA : UA K M S bn sm u tu) (h20 : mA S 20 (24 * bn + u) = 0) (hN : 4010 < N) (x1 : Int32) :
    ∃ f, FLT f ∧ bT_X3_readUnit_163 N (z + 7) tu K M = some (.inr (K, wI (emC M sm cc (wd 20 0 0)) (z + 7) 5 (nI f))) ∧ fM_item N x1 S = some (pF (emS S (10000 * bn + rc) rc 1 0 0) 8 (nI f)) ∧ DDs b bn 9000 S f (pF (emS S (10000 * bn + rc) rc 1 0 0) 8 (nI f)) := by
  have hz := hP.hz
  have hroom := hP.room
  have htu := hA.2.1
  have tn : tu ≠ z + 7 := by omega
  have ek : ∀ x, cI (emC M sm cc x) (z + 3) a = cI M (z + 3) a := fun x => by rw [emC_I (by omega)]
  have p := hP.2.2.1.em (sm := sm) hz (10000 * bn + rc) rc cc (wd 20 0 0) 1 0 0
  obtain ⟨f, f1, f2, f3⟩ := rf_nI p N (w := 1) (by omega) (by omega)
  have nx : ∀ c : Nat, c ≠ 139 → c < 1000 → cI (emC M sm cc (wd 20 0 0)) (z + 3) a ≠ nI c := fun c hc h1 y => by
    rw [ek, hk] at y
    exact hc ((nI_eq (by omega) (by omega)).mp y).symm
  have nw : ∀ c : Nat, c < 25 → c ≠ 11 → fM_hasWord N (nI c) (emS S (10000 * bn + rc) rc 1 0 0) = some (0, emS S (10000 * bn + rc) rc 1 0 0) := fun c hc h1 => by
    rcases l_hasW p N (w := c) hc with q | q
    · exact absurd q.1 (nx (128 + c) (by omega) (by omega))
    · exact q.2
  refine ⟨f, f1, ?_, ?_, ?_⟩
  · unfold bT_X3_readUnit_163 bT_X3_readUnit_171 bT_X3_readUnit_224
    have e3 : cI (emC M sm cc (wd 20 0 0)) (z + 7) 3 = nI 139 := by
      rw [emC_I (by omega), hP.kn]; exact hk
    have e0 : cI (emC M sm cc (wd 20 0 0)) tu 0 = 0 := by
      rw [emC_I (by omega), hA.2.2.2.2.1]; exact h20
    rw [gd_k hP.k7, hP.wC N, ta_l]
    dsimp only
    rw [gd_k hP.k7, e3, if_pos (by decide), gd_k hA.2.2.1, e0, if_pos rfl, gd_k hP.k7, t_no p N (k := 125) (nx 125 (by decide) (by decide)) f2, tb_r]
  · have r20 : fM_hasWord N 20 S = some (0, S) := hP.nW N (c := 20) (by decide) (by rw [hk]; decide)
    have w12 : fM_isWord N 12 S = some (0, S) := by
      rcases k_word hP.2.2.1 N (w := 12) (by decide) with y | y
      · exact absurd (hk.symm.trans y.1) (by decide)
      · exact y.2
    have w13 : fM_isWord N 13 S = some (0, S) := by
      rcases k_word hP.2.2.1 N (w := 13) (by decide) with y | y
      · exact absurd (hk.symm.trans y.1) (by decide)
      · exact y.2
    have r14 : fM_hasWord N 14 _ = _ := nw 14 (by decide) (by decide)
    have r15 : fM_hasWord N 15 _ = _ := nw 15 (by decide) (by decide)
    have r16 : fM_hasWord N 16 _ = _ := nw 16 (by decide) (by decide)
    have r17 : fM_hasWord N 17 _ = _ := nw 17 (by decide) (by decide)
    have hn : fM_isName N (emS S (10000 * bn + rc) rc 1 0 0) = some (0, emS S (10000 * bn + rc) rc 1 0 0) := by
      rcases k_name p N (by omega) with q | q
      · exact absurd q.1 (nx 2 (by decide) (by decide))
      · exact q.2
    have f3' : fM_wrong N 1 (emS S (10000 * bn + rc) rc 1 0 0) = some (pF (emS S (10000 * bn + rc) rc 1 0 0) 8 (nI f)) := f3
    have ds : DS (pF (emS S (10000 * bn + rc) rc 1 0 0) 8 (nI f)) f := ⟨f1, rfl⟩
    unfold fM_item
    rw [w12, bs]
    dsimp only
    rw [if_pos rfl, w13, bs]
    dsimp only
    rw [if_pos rfl]
    show (gP N (119 + 1) 1 S).bind _ = _
    rw [uP_1, m_plain hP N (gP N 119) (by rw [hk]; decide) (by rw [hk]; decide) (by rw [hk]; decide)]
    show ((gP N (118 + 1) 3 (emS S (10000 * bn + rc) rc 1 0 0)).bind _).bind _ = _
    rw [uP_3]
    unfold fM_plain
    rw [r14, bs]; dsimp only
    rw [if_pos rfl, r15, bs]; dsimp only
    rw [if_pos rfl, r16, bs]; dsimp only
    rw [if_pos rfl, r17, bs]; dsimp only
    rw [if_pos rfl]
    show ((((gP N (117 + 1) 4 (emS S (10000 * bn + rc) rc 1 0 0)).bind _).bind _).bind _) = _
    rw [uP_4]
    unfold fM_set bM_plain_145
    rw [hn, bs]; dsimp only
    rw [if_pos rfl, f3', bs, bs, bs, d_tS ds, bs, bs]
  · have d := hP.dds f1
    exact ⟨⟨f1, rfl⟩, (FR.em (M := M) (S := S) (cc := cc) (rc := rc) hP.1 (by omega) 0 1 0 0).2.2.2.2.2.2.2.2.2.tr (AgO.pF o8 _), d.2.2.1, d.2.2.2.1, rc + 1, rfl, by omega, fun k k1 k2 => emS_o (S := S) (r := rc) (by omega)⟩
end BODY
