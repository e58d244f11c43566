/-! a unit behind its head -/
section UBODY
variable {N z b bn sm size t nd nu nm iu u tu i : Nat} {ex ex' : Nat → Nat → Prop} {K0 K : Ka} {M M' M'' : Cm} {S S' S'' : Ms} {mk mk' : List Mk} {j : Jt} {rc cc a v rv dp n f : Nat}
theorem FI.h13 (h : FI z b sm tu K0 M M' S S') (i : Nat) : cI M' tu 13 = cI M tu 13 ∧ mA S' 33 i = mA S 33 i := ⟨h.2.1 13 (by decide) (by decide), by rw [h.2.2.2.2.2.2.2.1 33 (by decide) (by decide) (by decide) (by decide)]⟩
theorem ub_ok (hP : PS z b bn sm size t nd nu nm (u + 1) ex K0 K M S mk (0, [], 0) rc cc a v 0 0) (hu : u < nu) (ht : cR M (sm + 6) u = some tu) (hex : ∀ u' w, u' < 24 → w < 24 → (ex u' w ↔ u' = u ∧ LNx S (24 * bn + u) w)) (hN : 4010 < N) :
    UEo z b bn sm size t nd nu nm u tu K0 K M S mk (a + 1) (v + 3) (bT_X3_readUnit_66 N (z + 7) tu K M) ((fM_takeSign N 123 S).bind fun o261 => lM_toldUnit_264 N (bM_toldUnit_306 N) N (nI (24 * bn + u)) o261) := by
  have ht4 := hP.t4
  have hz := hP.hz
  have hroom := hP.room
  have n24 : nu ≤ 24 := hP.2.1.1.2.2.2.2.2.1
  have b2 : bn < 2 := by have := hP.1.2.1; omega
  obtain ⟨p1, p2, fl, p3⟩ := id hP.2.1.2.2.1
  obtain ⟨⟨tu', hA, hB, -⟩, -⟩ := p3 u hu
  have et : tu' = tu := by have := hA.1; rw [ht] at this; cases this; rfl
  subst et
  have htu := hA.2.1
  have tn : tu' ≠ z + 7 := by omega
  have hd := hA.hd
  have u24 : u < 24 := by omega
  have c66 : bT_X3_readUnit_66 N (z + 7) tu' K M = tb (fT_X3_take N (z + 7) 123 K M) fun o69 => lT_X3_readUnit_74 N (bT_X3_readUnit_163 N) N (z + 7) tu' (nI 0) o69.1 o69.2 := by
    unfold bT_X3_readUnit_66
    rw [gd_k hP.k7]; rfl
  rw [c66]
  rcases l_sign hP.2.2.1 N (c := 123) (by decide) (by decide) with ⟨-, g1, g2, g3⟩ | ⟨f, f1, f2, f3⟩
  · have g2' : fT_X3_take N (z + 7) 123 K M = some (.inl (K, mv z M (a + 1))) := g2
    have g3' : fM_takeSign N 123 S = some (pF S 7 (nI (a + 1))) := g3
    rw [g2', tb_l, g3', bs]
    dsimp only
    have h1 := (hP.tk (a' := a + 1) (by omega) (by omega)).less (v' := v + 1 + 1) (by omega)
    have fu1 : FU z b sm tu' (24 * bn + u) K0 M (mv z M (a + 1)) S (pF S 7 (nI (a + 1))) := (FR.mv (a + 1) (nI (a + 1)) hz).fu tn (by omega)
    rcases ub_lp (N := N) hu hN N N (mv z M (a + 1)) (pF S 7 (nI (a + 1))) 0 rc cc (a + 1) 0 (by omega) (by omega) (by omega) h1 (by omega) ht with ⟨M2, S2, rc2, cc2, a2, r2, x1, x2, x3, x4, x5, x6, x7⟩ | x
    · rw [x1, x2]
      have hex2 : ∀ u' w, u' < 24 → w < 24 → (ex u' w ↔ u' = u ∧ LNx S2 (24 * bn + u) w) := fun u' w q1 q2 => by
        rw [LNx.ag (S := pF S 7 (nI (a + 1))) (fun k k1 k2 => x5.2.2.2.2.2.2.2.1 k (by omega) (by omega) (by omega) (by omega))]
        exact hex u' w q1 q2
      have st := x5.h13 (24 * bn + u)
      refine (ub_cl (N := N) x6 x4 hu (by rw [x5.2.2.2.1]; exact ht) x7 hex2 hN).fu (fu1.tr x5.fu) (fun _ h => h) (fun _ h => Or.inl h) (by omega) (by omega) (Or.inl ⟨st.1.trans (by rw [mv_I _ tn]), st.2⟩)
    · exact Or.inr (x.fu fu1)
  · right
    have f2' : fT_X3_take N (z + 7) 123 K M = some (.inr (K, wI M (z + 7) 5 (nI f))) := f2
    have f3' : fM_takeSign N 123 S = some (pF S 8 (nI f)) := f3
    have d := hP.dds f1
    obtain ⟨S2, q1, q2⟩ := d306 (N := N) hP.1.1 hP.1.2.1 d (by omega) (by omega) u24 hd
    refine hP.fb f1 (by rw [f2', tb_r]) (S' := S2) ?_ (q2.le (by omega))
    obtain ⟨N', rfl⟩ : ∃ m, N = m + 1 := ⟨N - 1, by omega⟩
    rw [f3', bs, lM_toldUnit_264, if_neg d.1.n0]
    exact q1
end UBODY
