/-! roles read by both -/
def RSo (z b bn sm size t nd nu nm tu : Nat) (K0 K1 : Ka) (M : Cm) (S : Ms) (a : Nat) (x1 x2 bI : Int32) (c : Option ((Ka × Cm) ⊕ (Ka × Cm))) (o : Option Ms) : Prop :=
  (∃ M'' S'' a'' R', c = some (.inl (K1, M'')) ∧ o = some S'' ∧ a + 2 ≤ a'' ∧ R' ≠ [] ∧ HS z bn sm size t nd nu nm tu K1 M S M'' S'' a'' x1 x2 bI R') ∨ FT z b K0 M S c o
section ROLES
variable {N z b bn sm size t nd nu nm tu : Nat} {K0 K1 : Ka} {M : Cm} {S : Ms} {x1 x2 bI : Int32}
theorem rs_lp (e : HE z b bn sm t nu tu K0 K1 M S) (hN : 4010 < N) : ∀ (n n' : Nat) (M' : Cm) (S' : Ms) (R : List Nat) (a j : Nat) (more : Int32), t < n + a → t + 1 < n' + a → j ≤ a → HS z bn sm size t nd nu nm tu K1 M S M' S' a x1 x2 bI R → cI M' (z + 3) a = more → a < t →
    RSo z b bn sm size t nd nu nm tu K0 K1 M S a x1 x2 bI (lT_X3_readRoles_7 N (bT_X3_readRoles_164 N) n (z + 7) tu more (nI j) K1 M') (lM_takeRoles_2 N (bM_takeRoles_235 N) n' (nI (24 * bn + nu)) 1 (pF S' 7 (nI (a + 1)))) := by
  intro n
  induction n with
  | zero => intro n' M' S' R a j more h1 h2 h3 h hk hl; omega
  | succ n ih =>
    intro n' M' S' R a j more h1 h2 h3 h hk hl
    have hz := HS.hz e
    have hnu := e.2.2.2.1.1
    have ht := e.2.2.2.1.2
    have b2 : bn < 2 := by have := e.1.2; omega
    have i48 : 24 * bn + nu < 48 := by omega
    obtain ⟨m', rfl⟩ : ∃ m, n' = m + 2 := ⟨n' - 2, by omega⟩
    have hm := HS.mv e h (j := a + 1) (by omega)
    obtain ⟨⟨p, n0⟩, ⟨c, hf⟩, ⟨o, u⟩, q1, q2⟩ := id h
    obtain ⟨⟨p1, n1⟩, ⟨c1, hf1⟩, ⟨o1, u1⟩, -, -⟩ := id hm
    have k7 : kd K1 (z + 7) = 4 := p.1.k 7 4 0 rfl
    have k1 : kd K1 (z + 1) = 7 := p.1.k 1 7 0 rfl
    have r70 : cR M' (z + 7) 0 = some (z + 1) := p.1.r 7 0 1 (by decide)
    have kn : cI M' (z + 7) 3 = more := p.2.2.2.2.2.2.1.trans hk
    have cls0 : lT_X3_readRoles_7 N (bT_X3_readRoles_164 N) (n + 1) (z + 7) tu more (nI j) K1 M' = (if cI (mv z M' (a + 1)) (z + 7) 3 = 2 then (bT_X3_readRoles_52 N (lT_X3_readRoles_7 N (bT_X3_readRoles_164 N) n) (bT_X3_readRoles_164 N) (z + 7) tu 44 (nI j) K1 (mv z M' (a + 1))) else (tb (fT_X3_refuse N (z + 7) 1 K1 (mv z M' (a + 1))) fun o49 => (bT_X3_readRoles_52 N (lT_X3_readRoles_7 N (bT_X3_readRoles_164 N) n) (bT_X3_readRoles_164 N)) (z + 7) tu 44 (nI j) o49.1 o49.2)) := by
      rw [lT_X3_readRoles_7, gd_k k7, nn_s r70, gd_k k1, p.2.1.2.2.1, if_neg (nI_ge (show j < t + 1 by omega) (by omega)), if_pos kn, p.2.2.2.2.2.1, nI_1, mv_ok p.1 p.2.1 N (by omega), bs]
    have u4 := u1.2.2.2.1
    have u5 := u1.2.2.2.2.1
    have kn1 : cI (mv z M' (a + 1)) (z + 7) 3 = cI (mv z M' (a + 1)) (z + 3) (a + 1) := p1.2.2.2.2.2.2.1
    have m7 : mF (pF S' 7 (nI (a + 1))) 7 = nI (a + 1) := rfl
    generalize hM1 : mv z M' (a + 1) = M1 at *
    generalize hS1 : pF S' 7 (nI (a + 1)) = S1 at *
    have f0 : mF S1 8 = 0 := p1.2.2.2.2.1
    have n12 : mF S1 12 = nI bn := n1.2.1
    have six : R.length = 6 ∨ ¬ nI R.length = 6 := by
      by_cases y : R.length = 6
      · exact Or.inl y
      · exact Or.inr (fun q => y ((nI_eq (b := 6) (by omega) (by decide)).mp q))
    have ref0 : lM_takeRoles_2 N (bM_takeRoles_235 N) (m' + 2) (nI (24 * bn + nu)) 1 S1 = (if nI R.length = 6 then ((fM_isName N S1).bind fun o25 => if o25.1 = 0 then ((bM_takeRoles_81 N (lM_takeRoles_2 N (bM_takeRoles_235 N) (m' + 1)) (bM_takeRoles_235 N)) (nI (24 * bn + nu)) o25.2) else (ck (mF o25.2 7) 4002 ((fM_findUnit N (mL o25.2 6 (mF o25.2 7 : Int32).toNatClampNeg) o25.2).bind fun o41 => if o41.1 < 0 then ((bM_takeRoles_81 N (lM_takeRoles_2 N (bM_takeRoles_235 N) (m' + 1)) (bM_takeRoles_235 N)) (nI (24 * bn + nu)) o41.2) else (ck (mF o41.2 7) 4002 ((fM_findUnit N (mL o41.2 6 (mF o41.2 7 : Int32).toNatClampNeg) o41.2).bind fun o68 => ck ((24 * (mF o41.2 12)) + o68.1) 48 (if (mA o68.2 20 ((24 * (mF o41.2 12)) + o68.1 : Int32).toNatClampNeg) = 0 then ((bM_takeRoles_81 N (lM_takeRoles_2 N (bM_takeRoles_235 N) (m' + 1)) (bM_takeRoles_235 N)) (nI (24 * bn + nu)) o68.2) else ((fM_wrong N 5 o68.2).bind fun o78 => (bM_takeRoles_81 N (lM_takeRoles_2 N (bM_takeRoles_235 N) (m' + 1)) (bM_takeRoles_235 N)) (nI (24 * bn + nu)) o78))))))) else ((bM_takeRoles_81 N (lM_takeRoles_2 N (bM_takeRoles_235 N) (m' + 1)) (bM_takeRoles_235 N)) (nI (24 * bn + nu)) S1)) := by
      rw [lM_takeRoles_2, if_neg (by decide), if_pos f0, ck_n i48 (by decide), nI_clamp (show 24 * bn + nu < 2 ^ 31 by omega), u4]
    have dead81 : ∀ (f : Nat), FLT f → bM_takeRoles_81 N (lM_takeRoles_2 N (bM_takeRoles_235 N) (m' + 1)) (bM_takeRoles_235 N) (nI (24 * bn + nu)) (pF S1 8 (nI f)) = some (pF (pF S1 8 (nI f)) 7 (mF (pF S1 8 (nI f)) 7 + 1)) := fun f hff => dr_81 (S := pF S1 8 (nI f)) (f := f) ⟨hff, rfl⟩ N m' (by omega) i48 u4 q1 u5
    have aft : ∀ f : Nat, AgO b S1 (pF (pF S1 8 (nI f)) 7 (mF (pF S1 8 (nI f)) 7 + 1)) := fun f => (AgO.pF o8 _).tr (AgO.pF o7 _)
    rw [cls0, ref0]
    rcases k_name p1 N (by omega) with ⟨g1, g2, g3, g4⟩ | ⟨g1, g2⟩
    · -- a name
      have kn2 : cI M1 (z + 7) 3 = 2 := kn1.trans g1
      have hl1 : a + 1 < t := p1.lt (by rw [g1]; decide)
      rw [if_pos kn2]
      obtain ⟨-, -, n3, n4, -, -, -, -, -, n10, -⟩ := id n1
      obtain ⟨a4, x4, fu⟩ := fu_ok n1 N (by omega) (mL S1 6 (a + 1))
      have r70' : cR M1 (z + 7) 0 = some (z + 1) := p1.1.r 7 0 1 (by decide)
      have c52 : bT_X3_readRoles_52 N (lT_X3_readRoles_7 N (bT_X3_readRoles_164 N) n) (bT_X3_readRoles_164 N) (z + 7) tu 44 (nI j) K1 M1 = ((fC_X8_rankOf N K1 (mL S1 6 (a + 1)) a4 (nI nu) M1).bind fun o77 => if 0 ≤ o77.1 then ((bT_X3_readRoles_92 N (lT_X3_readRoles_7 N (bT_X3_readRoles_164 N) n) (bT_X3_readRoles_164 N)) (z + 7) tu 44 (nI j) o77.1 K1 o77.2) else (tb (fT_X3_refuse N (z + 7) 2 K1 o77.2) fun o89 => (bT_X3_readRoles_92 N (lT_X3_readRoles_7 N (bT_X3_readRoles_164 N) n) (bT_X3_readRoles_164 N)) (z + 7) tu 44 (nI j) o77.1 o89.1 o89.2)) := by
        unfold bT_X3_readRoles_52
        rw [gd_k k7, nn_s r70', gd_k k1, p1.2.2.2.2.2.1, va_ok p1 N (by omega), bs]
        dsimp only
        rw [nn_s n3, gd_k n4, nn_s n3, gd_k n4, nn_s x4, g3, n10]
      have a42 : a + 1 < 4002 := by omega
      rw [c52]
      rcases fu with ⟨r, r1, r2, r3⟩ | ⟨r2, r3⟩
      · -- told
        rw [r2, bs]
        dsimp only
        rw [if_pos (nI_pos' (by omega))]
        obtain ⟨tw, t1, t2, t3, t4, t5⟩ := e.2.2.2.2.2 r r1
        have ne20 : mA S1 20 (24 * bn + r) = mA S 20 (24 * bn + r) := hf1.2.1 20 _ (fun q => by rcases q with ⟨-, q⟩ | ⟨q, -⟩ <;> omega)
        have tU := tU_in (x := 0) p1 N n1 r1 g2 r3
        rw [ne20] at tU
        have loop : ∀ (S9 : Ms), S9 = S1 → lM_takeRoles_93 N (bM_takeRoles_138 N (lM_takeRoles_2 N (bM_takeRoles_235 N) (m' + 1)) (bM_takeRoles_235 N)) N (nI (24 * bn + nu)) (nI r) 0 0 S9 = bM_takeRoles_138 N (lM_takeRoles_2 N (bM_takeRoles_235 N) (m' + 1)) (bM_takeRoles_235 N) (nI (24 * bn + nu)) (nI r) (if r ∈ R then 1 else 0) S1 := fun S9 h9 => by
          subst h9
          have q := tw_lp N (bM_takeRoles_138 N (lM_takeRoles_2 N (bM_takeRoles_235 N) (m' + 1)) (bM_takeRoles_235 N)) (nI r) i48 u4 q1 u5 N 0 0 (Or.inl rfl) (by omega) (by omega)
          rw [List.drop_zero] at q
          refine q.trans ?_
          congr 1
          have : ((0 : Int32) = 1 ∨ ∃ r', r' ∈ R ∧ nI r' = nI r) ↔ r ∈ R := by
            constructor
            · rintro (y | ⟨r', y1, y2⟩)
              · exact absurd y (by decide)
              · have := (q2 r' y1).1
                rw [(nI_eq (by omega) (by omega)).mp y2] at y1
                exact y1
            · exact fun y => Or.inr ⟨r, y, rfl⟩
          by_cases y : r ∈ R
          · rw [if_pos y, if_pos (this.mpr y)]
          · rw [if_neg y, if_neg (fun w => y (this.mp w))]
        have c92 : bT_X3_readRoles_92 N (lT_X3_readRoles_7 N (bT_X3_readRoles_164 N) n) (bT_X3_readRoles_164 N) (z + 7) tu 44 (nI j) (nI r) K1 M1 = (if (if r ∈ R then (1 : Int32) else 0) = 0 then ((bT_X3_readRoles_106 N (lT_X3_readRoles_7 N (bT_X3_readRoles_164 N) n) (bT_X3_readRoles_164 N)) (z + 7) tu 44 (nI j) (nI r) K1 M1) else (tb (fT_X3_refuse N (z + 7) 3 K1 M1) fun o103 => (bT_X3_readRoles_106 N (lT_X3_readRoles_7 N (bT_X3_readRoles_164 N) n) (bT_X3_readRoles_164 N)) (z + 7) tu 44 (nI j) (nI r) o103.1 o103.2)) := by
          unfold bT_X3_readRoles_92
          rw [gd_k o1.1, hr_ok e hm N (by omega) (by omega), bs]
          dsimp only
          rw [gd_k k7]
        rw [c92]
        -- the reference behind its first look
        have refR : mA S 20 (24 * bn + r) = 0 → (if nI R.length = 6 then ((fM_isName N S1).bind fun o25 => if o25.1 = 0 then ((bM_takeRoles_81 N (lM_takeRoles_2 N (bM_takeRoles_235 N) (m' + 1)) (bM_takeRoles_235 N)) (nI (24 * bn + nu)) o25.2) else (ck (mF o25.2 7) 4002 ((fM_findUnit N (mL o25.2 6 (mF o25.2 7 : Int32).toNatClampNeg) o25.2).bind fun o41 => if o41.1 < 0 then ((bM_takeRoles_81 N (lM_takeRoles_2 N (bM_takeRoles_235 N) (m' + 1)) (bM_takeRoles_235 N)) (nI (24 * bn + nu)) o41.2) else (ck (mF o41.2 7) 4002 ((fM_findUnit N (mL o41.2 6 (mF o41.2 7 : Int32).toNatClampNeg) o41.2).bind fun o68 => ck ((24 * (mF o41.2 12)) + o68.1) 48 (if (mA o68.2 20 ((24 * (mF o41.2 12)) + o68.1 : Int32).toNatClampNeg) = 0 then ((bM_takeRoles_81 N (lM_takeRoles_2 N (bM_takeRoles_235 N) (m' + 1)) (bM_takeRoles_235 N)) (nI (24 * bn + nu)) o68.2) else ((fM_wrong N 5 o68.2).bind fun o78 => (bM_takeRoles_81 N (lM_takeRoles_2 N (bM_takeRoles_235 N) (m' + 1)) (bM_takeRoles_235 N)) (nI (24 * bn + nu)) o78))))))) else ((bM_takeRoles_81 N (lM_takeRoles_2 N (bM_takeRoles_235 N) (m' + 1)) (bM_takeRoles_235 N)) (nI (24 * bn + nu)) S1)) = bM_takeRoles_138 N (lM_takeRoles_2 N (bM_takeRoles_235 N) (m' + 1)) (bM_takeRoles_235 N) (nI (24 * bn + nu)) (nI r) (if r ∈ R then 1 else 0) S1 := fun z20 => by
          have e81 : bM_takeRoles_81 N (lM_takeRoles_2 N (bM_takeRoles_235 N) (m' + 1)) (bM_takeRoles_235 N) (nI (24 * bn + nu)) S1 = bM_takeRoles_138 N (lM_takeRoles_2 N (bM_takeRoles_235 N) (m' + 1)) (bM_takeRoles_235 N) (nI (24 * bn + nu)) (nI r) (if r ∈ R then 1 else 0) S1 := by
            unfold bM_takeRoles_81
            rw [tU, if_pos z20, bs]
            exact loop S1 rfl
          rcases six with y | y
          · rw [if_pos (by rw [y]; rfl), g2, bs]
            dsimp only
            rw [if_neg (by decide), m7, ck_n a42 (by decide), nI_clamp (show a + 1 < 2 ^ 31 by omega), r3, bs]
            dsimp only
            rw [if_neg (nI_pos (by omega)), m7, ck_n a42 (by decide), nI_clamp (show a + 1 < 2 ^ 31 by omega), r3, bs]
            dsimp only
            rw [n12, e24b, nI_add, ck_n (show 24 * bn + r < 48 by omega) (by decide), nI_clamp (show 24 * bn + r < 2 ^ 31 by omega), ne20, if_pos z20]
            exact e81
          · rw [if_neg y]
            exact e81
        by_cases hin : r ∈ R
        · -- told already
          right
          have z20 := (q2 r hin).2
          obtain ⟨f, f1, f2, f3, f4⟩ := d_wrg (w := 3) p1 (by omega) (by omega) N
          have f2' : fT_X3_refuse N (z + 7) 3 K1 M1 = some (.inr (K1, wI M1 (z + 7) 5 (nI f))) := f2
          have f3' : fM_wrong N 3 S1 = some (pF S1 8 (nI f)) := f3
          rw [refR z20, if_pos hin, if_neg (by decide), f2', tb_r]
          refine HS.ft e hm f1 rfl (S'' := pF (pF S1 8 (nI f)) 7 (mF (pF S1 8 (nI f)) 7 + 1)) ?_ ⟨f1, rfl⟩ (aft f)
          unfold bM_takeRoles_138
          rw [if_pos f0, if_neg (by decide), f3', bs]
          exact dr_181 (S := pF S1 8 (nI f)) f4 N m' _ _
        · rw [if_neg hin, if_pos rfl]
          have c106 : bT_X3_readRoles_106 N (lT_X3_readRoles_7 N (bT_X3_readRoles_164 N) n) (bT_X3_readRoles_164 N) (z + 7) tu 44 (nI j) (nI r) K1 M1 = (if nI R.length < 6 then ((bT_X3_readRoles_120 N (lT_X3_readRoles_7 N (bT_X3_readRoles_164 N) n) (bT_X3_readRoles_164 N)) (z + 7) tu 44 (nI j) (nI r) K1 M1) else (tb (fT_X3_refuse N (z + 7) 5 K1 M1) fun o117 => (bT_X3_readRoles_120 N (lT_X3_readRoles_7 N (bT_X3_readRoles_164 N) n) (bT_X3_readRoles_164 N)) (z + 7) tu 44 (nI j) (nI r) o117.1 o117.2)) := by
            unfold bT_X3_readRoles_106
            rw [gd_k o1.1, o1.2.2.2.2.2.1, gd_k k7]
          rw [c106]
          by_cases l6 : R.length < 6
          · have n6 : ¬ nI R.length = 6 := fun q => by have := (nI_eq (b := 6) (by omega) (by decide)).mp q; omega
            have tc : cR M1 sm 5 = some (sm + 6) := by rw [(c1.2.2.2 sm (by omega)).2]; exact e.2.2.2.2.1.1
            have tr : cR M1 (sm + 6) r = some tw := by rw [(c1.2.2.2 _ (by omega)).2]; exact t1
            have tv : cI M1 tw 0 = mA S 20 (24 * bn + r) := by rw [c1.1 tw (by omega) (by omega)]; exact t4
            have e5 := e.2.2.2.2.1
            have c120 : bT_X3_readRoles_120 N (lT_X3_readRoles_7 N (bT_X3_readRoles_164 N) n) (bT_X3_readRoles_164 N) (z + 7) tu 44 (nI j) (nI r) K1 M1 = (if mA S 20 (24 * bn + r) = 0 then ((bT_X3_readRoles_142 N (lT_X3_readRoles_7 N (bT_X3_readRoles_164 N) n) (bT_X3_readRoles_164 N)) (z + 7) tu 44 (nI j) (nI r) K1 M1) else (tb (fT_X3_refuse N (z + 7) 6 K1 M1) fun o139 => (bT_X3_readRoles_142 N (lT_X3_readRoles_7 N (bT_X3_readRoles_164 N) n) (bT_X3_readRoles_164 N)) (z + 7) tu 44 (nI j) (nI r) o139.1 o139.2)) := by
              unfold bT_X3_readRoles_120
              rw [gd_k k7, nn_s n3, gd_k n4, nn_s tc, gd_k e5.2.1, ck_n (show r < le K1 (sm + 6) by omega) (by omega), nI_clamp (show r < 2 ^ 31 by omega), nn_s tr, gd_k t2, tv]
            rw [if_pos (show nI R.length < 6 from nI_lt (b := 6) l6 (by decide)), c120]
            by_cases z20 : mA S 20 (24 * bn + r) = 0
            · -- a role more
              rw [refR z20, if_pos z20, if_neg hin]
              have h2' := HS.role e hm r1 z20 l6
              have h3' := HS.mv e h2' (j := a + 2) (by omega)
              have c142 : bT_X3_readRoles_142 N (lT_X3_readRoles_7 N (bT_X3_readRoles_164 N) n) (bT_X3_readRoles_164 N) (z + 7) tu 44 (nI j) (nI r) K1 M1 = lT_X3_readRoles_7 N (bT_X3_readRoles_164 N) n (z + 7) tu 44 (nI (j + 1)) K1 (mv z (wI (wI M1 (tu + 1) R.length (nI r)) tu 7 (nI (R.length + 1))) (a + 2)) := by
                unfold bT_X3_readRoles_142
                rw [gd_k o1.1, ar_ok e hm N l6, bs, gd_k k7, h2'.1.1.2.2.2.2.2.1, nI_1, mv_ok h2'.1.1.1 h2'.1.1.2.1 N (by omega), bs, nI_1]
              have e6 : (6 : Int32) * nI (24 * bn + nu) + nI R.length = nI (6 * (24 * bn + nu) + R.length) := by rw [show (6 : Int32) = nI 6 from rfl, nI_mul, nI_add]
              have e215 : bM_takeRoles_138 N (lM_takeRoles_2 N (bM_takeRoles_235 N) (m' + 1)) (bM_takeRoles_235 N) (nI (24 * bn + nu)) (nI r) 0 S1 = (fM_hasSign N 44 (pF (pA (pA S1 24 (6 * (24 * bn + nu) + R.length) (nI r)) 23 (24 * bn + nu) (nI (R.length + 1))) 7 (nI (a + 2)))).bind fun o228 => lM_takeRoles_2 N (bM_takeRoles_235 N) (m' + 1) (nI (24 * bn + nu)) o228.1 o228.2 := by
                unfold bM_takeRoles_138 bM_takeRoles_158 bM_takeRoles_181 bM_takeRoles_215
                have w23 : mA (pA S1 24 (6 * (24 * bn + nu) + R.length) (nI r)) 23 (24 * bn + nu) = nI R.length := by rw [mA_Ane _ _ _ (by decide)]; exact u4
                have w7 : mF (pA (pA S1 24 (6 * (24 * bn + nu) + R.length) (nI r)) 23 (24 * bn + nu) (nI (R.length + 1))) 7 = nI (a + 1) := m7
                rw [if_pos f0, if_pos rfl, if_pos f0, ck_n i48 (by decide), nI_clamp (show 24 * bn + nu < 2 ^ 31 by omega), u4, if_neg n6, if_pos f0, ck_n i48 (by decide), e6, ck_n (show 6 * (24 * bn + nu) + R.length < 288 by omega) (by decide), ck_n i48 (by decide), ck_n i48 (by decide), nI_clamp (show 6 * (24 * bn + nu) + R.length < 2 ^ 31 by omega), w23, nI_1, w7, nI_1]
              rw [c142, e215]
              rcases l_hasS h3'.1.1 N (c := 44) (by decide) (by decide) with ⟨y1, y2, y3⟩ | ⟨y1, y3⟩
              · have y3' : fM_hasSign N 44 (pF (pA (pA S1 24 (6 * (24 * bn + nu) + R.length) (nI r)) 23 (24 * bn + nu) (nI (R.length + 1))) 7 (nI (a + 2))) = some (1, pF (pF (pA (pA S1 24 (6 * (24 * bn + nu) + R.length) (nI r)) 23 (24 * bn + nu) (nI (R.length + 1))) 7 (nI (a + 2))) 7 (nI (a + 2 + 1))) := y3
                rw [y3', bs]
                dsimp only
                rcases ih (m' + 1) _ _ _ (a + 2) (j + 1) 44 (by omega) (by omega) (by omega) h3' y1 y2 with ⟨M9, S9, a9, R9, v1, v2, v3, v4, v5⟩ | v
                · exact Or.inl ⟨M9, S9, a9, R9, v1, v2, by omega, v4, v5⟩
                · exact Or.inr v
              · have y3' : fM_hasSign N 44 (pF (pA (pA S1 24 (6 * (24 * bn + nu) + R.length) (nI r)) 23 (24 * bn + nu) (nI (R.length + 1))) 7 (nI (a + 2))) = some (0, (pF (pA (pA S1 24 (6 * (24 * bn + nu) + R.length) (nI r)) 23 (24 * bn + nu) (nI (R.length + 1))) 7 (nI (a + 2)))) := y3
                rw [y3', bs]
                dsimp only
                obtain ⟨n2, rfl⟩ : ∃ m, n = m + 1 := ⟨n - 1, by omega⟩
                refine Or.inl ⟨_, _, a + 2, R ++ [r], ?_, ?_, by omega, by simp, h3'⟩
                · have pp := h3'.1.1
                  have y9 : ¬ cI (mv z (wI (wI M1 (tu + 1) R.length (nI r)) tu 7 (nI (R.length + 1))) (a + 2)) (z + 7) 3 = 44 := fun w => y1 (pp.2.2.2.2.2.2.1.symm.trans w)
                  rw [lT_X3_readRoles_7, gd_k k7, nn_s (pp.1.r 7 0 1 (by decide)), gd_k k1, pp.2.1.2.2.1, if_neg (nI_ge (show j + 1 < t + 1 by omega) (by omega)), if_neg y9]
                  rfl
                · rw [lM_takeRoles_2, if_pos rfl]
                  rfl
            · -- a module
              right
              obtain ⟨f, f1, f2, f3, f4⟩ := d_wrg (w := 6) p1 (by omega) (by omega) N
              have f2' : fT_X3_refuse N (z + 7) 6 K1 M1 = some (.inr (K1, wI M1 (z + 7) 5 (nI f))) := f2
              have f3' : fM_wrong N 6 S1 = some (pF S1 8 (nI f)) := f3
              rw [if_neg z20, f2', tb_r, if_neg n6]
              refine HS.ft e hm f1 rfl (S'' := pF (pF S1 8 (nI f)) 7 (mF (pF S1 8 (nI f)) 7 + 1)) ?_ ⟨f1, rfl⟩ (aft f)
              unfold bM_takeRoles_81
              rw [tU, if_neg z20, f3', bs, bs]
              exact dr_93 (S := pF S1 8 (nI f)) f4 N m' (by omega) _ i48 u4 q1 u5
          · -- too many
            right
            have l6' : R.length = 6 := by omega
            obtain ⟨f, f1, f2, f3, f4⟩ := d_wrg (w := 5) p1 (by omega) (by omega) N
            have f2' : fT_X3_refuse N (z + 7) 5 K1 M1 = some (.inr (K1, wI M1 (z + 7) 5 (nI f))) := f2
            have f3' : fM_wrong N 5 S1 = some (pF S1 8 (nI f)) := f3
            rw [if_neg (show ¬ nI R.length < 6 from nI_nlt (b := 6) (by omega) (by omega)), f2', tb_r]
            refine HS.ft e hm f1 rfl (S'' := pF (pF S1 8 (nI f)) 7 (mF (pF S1 8 (nI f)) 7 + 1)) ?_ ⟨f1, rfl⟩ (aft f)
            by_cases z20 : mA S 20 (24 * bn + r) = 0
            · rw [refR z20, if_neg hin]
              unfold bM_takeRoles_138 bM_takeRoles_158
              rw [if_pos f0, if_pos rfl, if_pos f0, ck_n i48 (by decide), nI_clamp (show 24 * bn + nu < 2 ^ 31 by omega), u4, if_pos (by rw [l6']; rfl), f3', bs]
              exact dr_181 (S := pF S1 8 (nI f)) f4 N m' _ _
            · rw [if_pos (by rw [l6']; rfl), g2, bs]
              dsimp only
              rw [if_neg (by decide), m7, ck_n a42 (by decide), nI_clamp (show a + 1 < 2 ^ 31 by omega), r3, bs]
              dsimp only
              rw [if_neg (nI_pos (by omega)), m7, ck_n a42 (by decide), nI_clamp (show a + 1 < 2 ^ 31 by omega), r3, bs]
              dsimp only
              rw [n12, e24b, nI_add, ck_n (show 24 * bn + r < 48 by omega) (by decide), nI_clamp (show 24 * bn + r < 2 ^ 31 by omega), ne20, if_neg z20, f3', bs]
              exact dead81 f f1
      · -- not told
        right
        obtain ⟨f, f1, f2, f3, f4⟩ := d_wrg (w := 2) p1 (by omega) (by omega) N
        have f2' : fT_X3_refuse N (z + 7) 2 K1 M1 = some (.inr (K1, wI M1 (z + 7) 5 (nI f))) := f2
        have f3' : fM_wrong N 2 S1 = some (pF S1 8 (nI f)) := f3
        rw [r2, bs]
        dsimp only
        rw [if_neg (by decide), f2', tb_r]
        refine HS.ft e hm f1 rfl (S'' := pF (pF S1 8 (nI f)) 7 (mF (pF S1 8 (nI f)) 7 + 1)) ?_ ⟨f1, rfl⟩ (aft f)
        have e81 : bM_takeRoles_81 N (lM_takeRoles_2 N (bM_takeRoles_235 N) (m' + 1)) (bM_takeRoles_235 N) (nI (24 * bn + nu)) S1 = some (pF (pF S1 8 (nI f)) 7 (mF (pF S1 8 (nI f)) 7 + 1)) := by
          unfold bM_takeRoles_81
          rw [tU_un p1 N g2 r3 f3', bs]
          exact dr_93 (S := pF S1 8 (nI f)) f4 N m' (by omega) _ i48 u4 q1 u5
        rcases six with y | y
        · rw [if_pos (by rw [y]; rfl), g2, bs]
          dsimp only
          rw [if_neg (by decide), m7, ck_n a42 (by decide), nI_clamp (show a + 1 < 2 ^ 31 by omega), r3, bs]
          dsimp only
          rw [if_pos (by decide)]
          exact e81
        · rw [if_neg y]
          exact e81
    · -- no name
      right
      obtain ⟨f, f1, f2, f3, f4⟩ := d_wrg (w := 1) p1 (by omega) (by omega) N
      have f2' : fT_X3_refuse N (z + 7) 1 K1 M1 = some (.inr (K1, wI M1 (z + 7) 5 (nI f))) := f2
      have f3' : fM_wrong N 1 S1 = some (pF S1 8 (nI f)) := f3
      rw [if_neg (fun w => g1 (kn1.symm.trans w)), f2', tb_r]
      refine HS.ft e hm f1 rfl (S'' := pF (pF S1 8 (nI f)) 7 (mF (pF S1 8 (nI f)) 7 + 1)) ?_ ⟨f1, rfl⟩ (aft f)
      have e81 : bM_takeRoles_81 N (lM_takeRoles_2 N (bM_takeRoles_235 N) (m' + 1)) (bM_takeRoles_235 N) (nI (24 * bn + nu)) S1 = some (pF (pF S1 8 (nI f)) 7 (mF (pF S1 8 (nI f)) 7 + 1)) := by
        unfold bM_takeRoles_81
        rw [tU_no p1 N g2 f3' f1, bs]
        exact dr_93 (S := pF S1 8 (nI f)) f4 N m' (by omega) _ i48 u4 q1 u5
      rcases six with y | y
      · rw [if_pos (by rw [y]; rfl), g2, bs]
        dsimp only
        rw [if_pos rfl]
        exact e81
      · rw [if_neg y]
        exact e81
end ROLES
