/-! the items of a unit -/
section LOOP
variable {N z b bn sm size t nd nu nm iu u tu : Nat} {ex : Nat → Nat → Prop} {K0 K : Ka} {M M' M'' : Cm} {S S' S'' : Ms} {mk mk' : List Mk} {j : Jt} {rc cc a v rv dp n f : Nat}
theorem ub_lp (hu : u < nu) (hN : 4010 < N) : ∀ (n n' : Nat) (M : Cm) (S : Ms) (r rc cc a i : Nat), t < n + a → t + 1 < n' + a → i ≤ a → PS z b bn sm size t nd nu nm (u + 1) ex K0 K M S mk (0, [], r) rc cc a (v + 1) 0 0 → r ≤ 90 → cR M (sm + 6) u = some tu →
    UBo N z b bn sm size t nd nu nm u tu ex K0 K M S mk a (v + 1) (lT_X3_readUnit_74 N (bT_X3_readUnit_163 N) n (z + 7) tu (nI i) K M) (lM_toldUnit_264 N (bM_toldUnit_306 N) n' (nI (24 * bn + u)) S) := by
  intro n
  induction n with
  | zero => intro n' M S r rc cc a i h1 _ _ hP; have := hP.t4; omega
  | succ n ih =>
    intro n' M S r rc cc a i h1 h2 hi hP hr ht
    have ht4 := hP.t4
    have hz := hP.hz
    have hroom := hP.room
    have n24 : nu ≤ 24 := hP.2.1.1.2.2.2.2.2.1
    have b2 : bn < 2 := by have := hP.1.2.1; omega
    obtain ⟨p1, p2, fl, p3⟩ := id hP.2.1.2.2.1
    obtain ⟨⟨tu', hA, hB, -⟩, -⟩ := p3 u hu
    have et : tu' = tu := by have := hA.1; rw [ht] at this; cases this; rfl
    subst et
    have htu := hA.2.1
    have tn : tu' ≠ z + 7 := by omega
    have hd := hA.hd
    obtain ⟨n', rfl⟩ : ∃ m, n' = m + 1 := ⟨n' - 1, by omega⟩
    have ck48 : ∀ {ρ : Type} (q : Option ρ), ck (nI (24 * bn + u)) 48 q = q := fun q => ck_n (by omega) (by decide)
    have s125 : fM_isSign N 125 S = _ := hP.isS N (c := 125) (by decide) (by decide)
    rw [lT_X3_readUnit_74, lM_toldUnit_264, gd_k hP.k7, nn_s hP.r70, gd_k hP.k1, hP.tok, if_neg (nI_ge (show i < t + 1 by omega) (by omega)), hP.kn, if_pos hP.f0, s125, bs, ck48, nI_clamp (show 24 * bn + u < 2 ^ 31 by omega)]
    dsimp only
    by_cases k125 : cI M (z + 3) a = nI 125
    · rw [if_pos (show cI M (z + 3) a = 125 from k125), if_pos k125, if_neg (by decide)]
      exact Or.inl ⟨M, S, rc, cc, a, r, rfl, rfl, Nat.le_refl _, hr, FI.rf _ _ _ _ _ _ _, hP, Or.inl k125⟩
    rw [if_neg (show ¬ cI M (z + 3) a = 125 from k125), if_neg k125, if_pos rfl]
    have dead : ∀ {f : Nat} {S1 : Ms}, DDs b bn 9000 S f S1 → ∃ S2, lM_toldUnit_264 N (bM_toldUnit_306 N) n' (nI (24 * bn + u)) S1 = some S2 ∧ DDs b bn 9100 S f S2 := fun {f S1} d => by
      obtain ⟨n', rfl⟩ : ∃ m, n' = m + 1 := ⟨n' - 1, by omega⟩
      obtain ⟨S2, q1, q2⟩ := d306 (N := N) hP.1.1 hP.1.2.1 d (by omega) (by omega) (show u < 24 by omega) hd
      refine ⟨S2, ?_, q2.le (by omega)⟩
      rw [lM_toldUnit_264, if_neg d.1.n0]
      exact q1
    by_cases k139 : cI M (z + 3) a = nI 139
    · rw [if_pos (show cI M (z + 3) a = 139 from k139)]
      by_cases m20 : mA S 20 (24 * bn + u) = 0
      · right
        obtain ⟨f, f1, f2, f3, f4⟩ := ro_cl (N := N) hP hr k139 hA m20 hN (nI (24 * bn + u))
        obtain ⟨S2, q1, q2⟩ := dead f4
        unfold bM_toldUnit_298
        rw [if_pos m20, f2, f3, bs, q1]
        refine ⟨f, K, _, S2, f1, rfl, hP.1.2.2.2.2.2.1, ?_, by rw [cI_w, if_pos ⟨rfl, rfl⟩], rfl, q2⟩
        exact ((FR.em (M := M) (S := S) (cc := cc) (rc := rc) hP.1 (by omega) (wd 20 0 0) 1 0 0).2.2.2.2.2.2.2.2.1).tr ⟨fun a' _ q => ⟨by rw [cI_wI_ne _ _ _ q], rfl⟩, fun _ _ _ _ => rfl⟩
      · have w11 : fM_isWord N 11 S = some (1, S) := by
          rcases k_word hP.2.2.1 N (w := 11) (by decide) with y | y
          · exact y.2
          · exact absurd k139 y.1
        rw [if_neg m20, w11, bs]
        dsimp only
        rw [if_neg (by decide)]
        exact Or.inl ⟨M, S, rc, cc, a, r, rfl, rfl, Nat.le_refl _, hr, FI.rf _ _ _ _ _ _ _, hP, Or.inr ⟨k139, m20⟩⟩
    rw [if_neg (show ¬ cI M (z + 3) a = 139 from k139)]
    have ref : (if mA S 20 (24 * bn + u) = 0 then bM_toldUnit_298 N (lM_toldUnit_264 N (bM_toldUnit_306 N) n') (bM_toldUnit_306 N) (nI (24 * bn + u)) S else ((fM_isWord N 11 S).bind fun o292 => if o292.1 = 0 then bM_toldUnit_298 N (lM_toldUnit_264 N (bM_toldUnit_306 N) n') (bM_toldUnit_306 N) (nI (24 * bn + u)) o292.2 else bM_toldUnit_306 N (nI (24 * bn + u)) o292.2)) = ((fM_item N (nI (24 * bn + u)) S).bind fun o => lM_toldUnit_264 N (bM_toldUnit_306 N) n' (nI (24 * bn + u)) o) := by
      have w11 : fM_isWord N 11 S = some (0, S) := by
        rcases k_word hP.2.2.1 N (w := 11) (by decide) with y | y
        · exact absurd y.1 k139
        · exact y.2
      by_cases m20 : mA S 20 (24 * bn + u) = 0
      · rw [if_pos m20]; rfl
      · rw [if_neg m20, w11, bs]
        dsimp only
        rw [if_pos rfl]; rfl
    rw [ref]
    have go : ∀ c0, IO z b bn sm size t nd nu nm (u + 1) tu' ex K0 K M S mk a (v + 1) c0 (fM_item N (nI (24 * bn + u)) S) → UBo N z b bn sm size t nd nu nm u tu' ex K0 K M S mk a (v + 1) (tb c0 fun o => lT_X3_readUnit_74 N (bT_X3_readUnit_163 N) n (z + 7) tu' (nI i + 1) o.1 o.2) ((fM_item N (nI (24 * bn + u)) S).bind fun o => lM_toldUnit_264 N (bM_toldUnit_306 N) n' (nI (24 * bn + u)) o) := fun c0 hI => by
      rcases hI with ⟨M1, S1, rc1, cc1, a1, r1, w1, w2, w3, w4, w5, w6⟩ | w
      · rw [w1, w2, tb_l, bs, nI_1]
        dsimp only
        rcases ih n' M1 S1 r1 rc1 cc1 a1 (i + 1) (by omega) (by omega) (by omega) w6 w4 (by rw [w5.2.2.2.1]; exact ht) with ⟨M2, S2, rc2, cc2, a2, r2, x1, x2, x3, x4, x5, x6, x7⟩ | x
        · exact Or.inl ⟨M2, S2, rc2, cc2, a2, r2, x1, x2, by omega, x4, w5.tr x5, x6, x7⟩
        · exact Or.inr (x.fi w5)
      · exact Or.inr (w.go (fun f S1 d => dead d))
    by_cases k140 : cI M (z + 3) a = nI 140
    · rw [if_pos (show cI M (z + 3) a = 140 from k140)]
      exact go _ (it_set hP hr hu ht k140 hN)
    rw [if_neg (show ¬ cI M (z + 3) a = 140 from k140)]
    by_cases k141 : cI M (z + 3) a = nI 141
    · rw [if_pos (show cI M (z + 3) a = 141 from k141)]
      exact go _ (it_stat hP hr hu ht k141 hN)
    · rw [if_neg (show ¬ cI M (z + 3) a = 141 from k141)]
      exact go _ (it_st hP hr tn (by omega) k140 k141 hN _)
end LOOP
