/-! names within a PART -/
theorem va3 {f : Nat → Nat → Int32} {i : Nat} {x1 x2 x3 y1 y2 y3 : Int32} (S1 : Nat → Int32) (S3 : Nat → Nat → Int64) : pA (pA (pA ((S1, f, S3) : Ms) 39 i x1) 40 i x2) 41 i x3 = ((S1, (pA (pA (pA ((S1, f, S3) : Ms) 39 i x1) 40 i x2) 41 i x3).2.1, S3) : Ms) := rfl
theorem emS_put (S : Ms) (i r : Nat) (x1 x2 x3 y1 y2 y3 : Int32) : pA (pA (pA (emS S i r x1 x2 x3) 39 i y1) 40 i y2) 41 i y3 = emS S i r y1 y2 y3 := by
  have e : (pA (pA (pA (emS S i r x1 x2 x3) 39 i y1) 40 i y2) 41 i y3).2.1 = (emS S i r y1 y2 y3).2.1 := by
    funext k q
    have l : mA (pA (pA (pA (emS S i r x1 x2 x3) 39 i y1) 40 i y2) 41 i y3) k q = mA (emS S i r y1 y2 y3) k q := by
      unfold emS
      simp only [mA_A, mA_F]
      by_cases q1 : k = 41 ∧ q = i
      · simp only [if_pos q1]
      · by_cases q2 : k = 40 ∧ q = i
        · simp only [if_neg q1, if_pos q2]
        · by_cases q3 : k = 39 ∧ q = i
          · simp only [if_neg q1, if_neg q2, if_pos q3]
          · simp only [if_neg q1, if_neg q2, if_neg q3]
    exact l
  exact Prod.ext rfl (Prod.ext e rfl)
theorem place_em {S : Ms} {bn rc w s : Nat} {k : Int32} (N : Nat) (b2 : bn < 2) (h12 : mF S 12 = nI bn) (h51 : mF S 51 = nI w) (h52 : mF S 52 = nI s) (hw : w < 24) (hs : s < 8) (hk : mA S 27 (8 * (24 * bn + w) + s) = k) (hk1 : k = 0 ∨ k = 1) (hrc : 10000 * bn + rc < 20000) : fM_place N (nI (10000 * bn) + nI rc) 0 (emS S (10000 * bn + rc) rc 4 0 0) = some (emS S (10000 * bn + rc) rc (if k = 1 then 3 else 4) (nI w) (nI s)) := by
  have e27 : (8 : Int32) * (24 * nI bn + nI w) + nI s = nI (8 * (24 * bn + w) + s) := by rw [e24b, nI_add, show (8 : Int32) = nI 8 from rfl, nI_mul, nI_add]
  have f12 : mF (emS S (10000 * bn + rc) rc 4 0 0) 12 = nI bn := h12
  have f51 : mF (emS S (10000 * bn + rc) rc 4 0 0) 51 = nI w := h51
  have f52 : mF (emS S (10000 * bn + rc) rc 4 0 0) 52 = nI s := h52
  have a27 : mA (emS S (10000 * bn + rc) rc 4 0 0) 27 = mA S 27 := emS_o (by omega)
  have c : ∀ {ρ : Type} (q : Option ρ), ck (nI (10000 * bn + rc)) 20000 q = q := fun q => ck_n hrc (by decide)
  have cl : (nI (10000 * bn + rc)).toNatClampNeg = 10000 * bn + rc := nI_clamp (by omega)
  unfold fM_place bM_place_40 bM_place_62
  rw [nI_add, f12, f51, f52, e27, ck_n (show 8 * (24 * bn + w) + s < 384 by omega) (by decide), nI_clamp (show 8 * (24 * bn + w) + s < 2 ^ 31 by omega), a27, hk, if_pos rfl, if_pos rfl, c, c, c, c, c, c, cl]
  have p51 : ∀ x, mF (pA (emS S (10000 * bn + rc) rc 4 0 0) 39 (10000 * bn + rc) x) 51 = nI w := fun _ => h51
  have p52 : ∀ x y, mF (pA (pA (emS S (10000 * bn + rc) rc 4 0 0) 39 (10000 * bn + rc) x) 40 (10000 * bn + rc) y) 52 = nI s := fun _ _ => h52
  rw [p51, p51, p52, p52, emS_put, emS_put]
  rcases hk1 with q | q
  · subst q
    rw [if_pos rfl, if_neg (by decide)]
  · subst q
    rw [if_neg (by decide), if_pos rfl]
section WNAMES
variable {z b bn sm size t nd nu nm iu : Nat} {ex : Nat → Nat → Prop} {K0 K : Ka} {M M' : Cm} {S S' : Ms} {mk : List Mk} {j : Jt} {rc cc a v rv dp w h : Nat} {tl : List Nat}
/-- the reference at a name -/
theorem m_name (hP : PS z b bn sm size t nd nu nm iu ex K0 K M S mk j rc cc a v rv dp) (N : Nat) (GP : Nat → Ms → Option Ms) (hk : cI M (z + 3) a = 2) : fM_partWithin N GP S = ((fM_isPoint N S).bind fun o157 => if o157.1 = 0 then ((fM_nearName N 0 o157.2).bind fun o193 => (fM_emit N 4 0 0 o193).bind fun o200 => if (mF o200.2 8) = 0 then ((fM_place N ((mF o200.2 42) + o200.1) 0 o200.2).bind fun o219 => (bM_partWithin_222 N GP) o219) else ((bM_partWithin_222 N GP) o200.2)) else ((fM_farName N o157.2).bind fun o169 => (fM_emit N 4 0 0 o169).bind fun o181 => (fM_later N (mF o157.2 7) ((mF o157.2 7) + 2) o181.1 0 o181.2).bind fun o185 => (bM_partWithin_222 N GP) o185)) := by
  have ht := hP.t4
  have nn : cI M (z + 3) a ≠ 3 := by rw [hk]; decide
  have r40 : fM_hasSign N 40 S = some (0, S) := hP.nS N (c := 40) (by decide) (by decide) (by rw [hk]; decide)
  have r45 : fM_hasSign N 45 S = some (0, S) := hP.nS N (c := 45) (by decide) (by decide) (by rw [hk]; decide)
  have r22 : fM_hasWord N 22 S = some (0, S) := hP.nW N (c := 22) (by decide) (by rw [hk]; decide)
  have r23 : fM_hasWord N 23 S = some (0, S) := hP.nW N (c := 23) (by decide) (by rw [hk]; decide)
  have r24 : fM_hasWord N 24 S = some (0, S) := hP.nW N (c := 24) (by decide) (by rw [hk]; decide)
  unfold fM_partWithin
  rw [hP.m7, ck_n (show a < 4002 by omega) (by decide), nI_clamp (show a < 2 ^ 31 by omega), if_neg (m_nn hP nn), r40, bs]; dsimp only
  rw [if_pos rfl, r45, bs]; dsimp only
  rw [if_pos rfl, r22, bs]; dsimp only
  rw [if_pos rfl, r23, bs]; dsimp only
  rw [if_pos rfl, r24, bs]; dsimp only
  rw [if_pos rfl]
theorem w_name (hP : PS z b bn sm size t nd nu nm iu ex K0 K M S mk (h, tl, 0) rc cc a v rv (w + 1)) (hw : w < 10) (hh : h ≤ 3 * w + 3) (hT : TCx mk tl (7 * (10 - w) + 1)) (hrv : rv = 0 ∨ rv + 3 ≤ a) (hk : cI M (z + 3) a = 2) (N : Nat) (hN : 2001 < N) (G : Nat → Nat → Int32 → Int32 → Ka → Cm → Option ((Ka × Cm) ⊕ (Ka × Cm))) (GP : Nat → Ms → Option Ms) (s0 : Int32) (n : Nat) (hn : 8001 ≤ n) :
    EOk z b bn sm size t nd nu nm iu ex K0 K M S mk (h + 1) tl a (v + 1) rv (w + 1) (7 * (10 - w) + 1) n (bT_X3_readPart_12 N G (z + 7) (nI w) s0 K M) (fM_partWithin N GP S) := by
  have ht := hP.t4
  have hroom := hP.room
  have n24 : nu ≤ 24 := hP.2.1.1.2.2.2.2.2.1
  have hl : a < t := hP.2.2.1.lt (by rw [hk]; decide)
  have cls : bT_X3_readPart_12 N G (z + 7) (nI w) s0 K M = tb (fT_X3_readPlace N (z + 7) 0 K M) fun o74 => (bT_X3_readPart_77 N G) (z + 7) sm o74.1 o74.2.1 o74.2.2 := by
    unfold bT_X3_readPart_12
    rw [gd_k hP.k7, hP.kn, hk, if_pos rfl, nn_s hP.r71]
  rw [cls, m_name hP N GP hk]
  rcases k_point hP.2.2.1 hl N with ⟨p1, p2, p3⟩ | ⟨p1, p3⟩
  · rw [p3, bs]
    dsimp only
    rw [if_neg (by decide)]
    rcases far_ok hP hk p1 p2 (ts := 0) (Or.inl rfl) N (by omega) with ⟨⟨q1, q1b⟩, q2, q3, q4, q5⟩ | ⟨f, S1, f1, f2, f3, f4⟩
    · have q5' : PS z b bn sm size t nd nu nm iu ex K0 K (mv z M (a + 3)) (pF S 7 (nI (a + 3))) mk (h, tl, 0) rc cc (a + 3) (v + 1 + 1) rv (w + 1) := q5.less (by omega)
      have hc : CD bn sm nd nu (mv z M (a + 3)) (pF S 7 (nI (a + 3))) mk (h, tl, 0) rc cc a rv := hP.2.2.2.2.1.q rfl (fun _ _ => rfl) rfl (Nat.le_refl _)
      have hiu : iu ≤ 24 := by have := hP.2.1.2.2.2.2.2.2; omega
      obtain ⟨S2, s1, s2, s3, s4⟩ := q5'.late (o := 25) (tok := a) (ρ := 7 * (10 - w)) (rv' := rv) hc (by omega) (by first | decide | simp) (EMC.mk' (Nat.zero_le _) ⟨fun w => absurd w (by first | decide | simp), fun w => absurd w (by first | decide | simp), fun w => absurd w (by first | decide | simp), fun w => absurd w (by first | decide | simp), fun w => absurd w (by first | decide | simp), fun w => absurd w (by first | decide | simp), fun _ => ⟨by show a ≤ 4000; omega, hP.2.1.2.2.2.2.2.2, hP.2.2.1.w1 hl hk, fun _ => q1b⟩⟩ (by omega) (Nat.zero_le _) (by first | decide | simp) (by first | decide | simp) (by omega) hT) (by have := hP.2.2.2.2.2.2.2.2.2; omega) (Or.inl (Nat.le_refl _)) (Or.inr ⟨rfl, hrv⟩) (by rw [if_neg (by first | decide | simp)]; omega) N hN (x2 := nI (a + 2)) (x4 := 0) rfl rfl
      left
      refine ⟨_, S2, rc + 1, cc + 1, a + 3, 7 * (10 - w) + 1, ?_, ?_, by omega, Nat.le_refl _, q4.tr s2, ?_⟩
      · rw [q2, tb_l]
        dsimp only
        unfold bT_X3_readPart_77 bT_X3_readPart_80 bT_X3_readPart_213
        rw [gd_k hP.ks, em5 q5.2.2.2.1 q5.room.2.2.2.2.2 N, ta_l]
        rfl
      · rw [q3, bs, q5'.wS N, bs]
        dsimp only
        rw [hP.m7, show (2 : Int32) = nI 2 from rfl, nI_add]
        have s1' : fM_later N (nI a) (nI (a + 2)) (nI rc) 0 (emS (pF S 7 (nI (a + 3))) (10000 * bn + rc) rc 4 0 0) = some S2 := s1
        rw [s1', bs]
        rfl
      · exact s4
    · right
      obtain ⟨r, S2, g1, g2, g3⟩ := f4.em hP.1.1 hP.1.2.1 (by omega) N 4 0 0
      refine hP.fbm f1 (jj := a + 2) (by rw [f2, tb_r]) (S' := S2) ?_ (g3.le (by omega))
      rw [f3, bs, g2, bs]
      dsimp only
      have l : ∀ x1 x2 x3 x4, fM_later N x1 x2 x3 x4 S2 = some S2 := fun x1 x2 x3 x4 => by
        unfold fM_later
        rw [if_neg g3.1.n1]
      rw [l, bs]
      rfl
  · rw [p3, bs]
    dsimp only
    rw [if_pos rfl]
    rcases near_ok hP hk p1 (ts := 0) (Or.inl rfl) N (by omega) with ⟨y, s, k, M3, S3, y1, y2, y3, -, y5, y6, y7, y8, y9, y10⟩ | ⟨f, S1, f1, f2, f3, f4⟩
    · have hs8 : s < 8 := by obtain ⟨⟨ni, i1, i2, i3⟩, -⟩ := y2; omega
      have y10' : PS z b bn sm size t nd nu nm iu ex K0 K M3 S3 mk (h, tl, 0) rc cc (a + 1) (v + 1 + 1) rv (w + 1) := y10.less (by omega)
      have b2 : bn < 2 := by have := hP.1.2.1; omega
      have sl3 : SLs S3 bn y s k := by
        unfold SLs at y2 ⊢
        rw [y9.2.2.2.2.2.2.1 25 (by decide) (by decide) (by decide), y9.2.2.2.2.2.2.1 27 (by decide) (by decide) (by decide)]
        exact y2
      have cwe : ∀ x, cw bn S3 x = cw bn S x := fun x => cwd_ag (y9.2.2.2.2.2.2.1 28 (by decide) (by decide) (by decide)) (y9.2.2.2.2.2.2.1 29 (by decide) (by decide) (by decide)) (fun _ _ => rfl)
      have fin : ∀ o, (o = 3 ∧ k = 1 ∨ o = 4 ∧ k = 0) → _ := fun o ho => y10'.em (x := (o, y, s)) (ρ := 7 * (10 - w)) (by left; show o < 10; omega) (by show o ≠ 31; omega) (by show ¬ (25 ≤ o ∧ o ≤ 27); omega) (EMC.mk' (Nat.zero_le _) ⟨fun q => by have : o = 2 := q; omega, fun q => ⟨y1, ho.elim (fun w => by rw [← w.2]; exact sl3) (fun w => absurd (show o = 3 from q) (by omega))⟩, fun q => ⟨y1, ho.elim (fun w => absurd (show o = 4 ∨ o = 5 from q) (by omega)) (fun w => by rw [← w.2]; exact sl3)⟩, fun q => by have : o = 6 := q; omega, fun q => by have : o = 7 ∨ o = 14 := q; omega, fun q => by have : o = 9 := q; omega, fun q => by have : 25 ≤ o ∧ o ≤ 27 := q; omega⟩ (by omega) (by show pp o ≤ h; rcases ho with w | w <;> rw [w.1] <;> exact Nat.zero_le _) (by show 2 ≤ o; omega) (by show o < 30; omega) (by omega) hT)
      have pl := place_em (rc := rc) N b2 y10.2.1.1.2.1 y7 y8 (by omega) hs8 (k := k) sl3.2 y3 (by omega)
      have e42 : mF S3 42 = nI (10000 * bn) := y10.2.1.2.2.2.1
      have ref : ((fM_nearName N 0 S).bind fun o193 => (fM_emit N 4 0 0 o193).bind fun o200 => if (mF o200.2 8) = 0 then ((fM_place N ((mF o200.2 42) + o200.1) 0 o200.2).bind fun o219 => (bM_partWithin_222 N GP) o219) else ((bM_partWithin_222 N GP) o200.2)) = some (emS S3 (10000 * bn + rc) rc (if k = 1 then 3 else 4) (nI y) (nI s)) := by
        rw [y6, bs, y10'.wS N, bs]
        dsimp only
        have f8 : mF (emS S3 (10000 * bn + rc) rc 4 0 0) 8 = 0 := y10.f0
        have f42 : mF (emS S3 (10000 * bn + rc) rc 4 0 0) 42 = nI (10000 * bn) := e42
        rw [if_pos f8, f42, pl, bs]
        rfl
      have cl : ∀ o, (if (0 : Int32) = 1 then 5 else if k = 1 then 3 else 4) = o → tb (fT_X3_readPlace N (z + 7) 0 K M) (fun o74 => (bT_X3_readPart_77 N G) (z + 7) sm o74.1 o74.2.1 o74.2.2) = some (.inl (K, emC M3 sm cc (cw bn S3 (o, y, s)))) := fun o ho => by
        rw [y5, tb_l, ho]
        dsimp only
        unfold bT_X3_readPart_77 bT_X3_readPart_80 bT_X3_readPart_213
        rw [gd_k hP.ks, em5 y10.2.2.2.1 y10.room.2.2.2.2.2 N, ta_l, cwe]
      left
      rcases y3 with k0 | k1
      · obtain ⟨h3, f3⟩ := fin 4 (Or.inr ⟨rfl, k0⟩)
        refine ⟨_, _, rc + 1, cc + 1, a + 1, 7 * (10 - w) + 1, cl 4 (by rw [if_neg (by first | decide | simp), k0, if_neg (by first | decide | simp)]), ?_, by omega, Nat.le_refl _, y9.tr f3, h3.drop (by first | decide | simp)⟩
        rw [ref, k0, if_neg (by decide)]
        rfl
      · obtain ⟨h3, f3⟩ := fin 3 (Or.inl ⟨rfl, k1⟩)
        refine ⟨_, _, rc + 1, cc + 1, a + 1, 7 * (10 - w) + 1, cl 3 (by rw [if_neg (by first | decide | simp), k1, if_pos rfl]), ?_, by omega, Nat.le_refl _, y9.tr f3, h3.drop (by first | decide | simp)⟩
        rw [ref, k1, if_pos rfl]
        rfl
    · right
      obtain ⟨r, S2, g1, g2, g3⟩ := f4.em hP.1.1 hP.1.2.1 (by omega) N 4 0 0
      refine hP.fb f1 (by rw [f2, tb_r]) (S' := S2) ?_ (g3.le (by omega))
      rw [f3, bs, g2, bs]
      dsimp only
      rw [if_neg g3.1.n0]
      rfl
end WNAMES
