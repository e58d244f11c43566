/-! a unit read by both, from its first word to its end -/
section TUNIT2
variable {N z b bn sm size t nd nu nm : Nat} {K0 K : Ka} {M : Cm} {S : Ms} {a rc cc : Nat} {mk : List Mk}
theorem t_unit (h : TS z b bn sm size t K0 K M S nd nu nm mk rc cc a) (hk : cI M (z + 3) a = 132 ∨ cI M (z + 3) a = 133 ∨ cI M (z + 3) a = 135) (hN : 4010 < N) : TO z b bn sm size t K0 M S a (fT_X3_readUnit N (z + 7) K M) (fM_toldUnit N S) := by
  obtain ⟨⟨e, p, c, dd, l, h42, h38, hlast⟩, ⟨n, pu, dv, rw, dvd, dmd, und⟩, bud1, bud2, bud3, bud4⟩ := id h
  obtain ⟨n1, n2, n3, n4, n5, n6, n7, n8, n9, n10, n11, n12, n13, n14, n15, n16⟩ := id n
  have hz : z + 174 ≤ sm := by have := e.2.2.1; have := e.2.2.2.1; omega
  have k7 : kd K (z + 7) = 4 := p.1.k 7 4 0 rfl
  have b2 : bn < 2 := by omega
  by_cases hnu : nu < 24
  · have hO : HO z b bn sm size t nd nu nm K0 K M S N a := by
      rcases hk with q | q | q
      · exact rh_ok h (Or.inl q) hnu hN
      · exact rh_ok h (Or.inr q) hnu hN
      · exact mh_ok h q hnu hN
    rcases hO with ⟨x, fr, ⟨M', S', a', x1, x2, bI, R, p9, q9, g, hadd, href, gx, gx2, gb, gB, ga, gp, gq⟩ | v⟩ | v
    · obtain ⟨he, hr⟩ := h.he hnu
      have hh := HS.hz he
      have ht := he.2.2.2.1.2
      obtain ⟨K2, M2, M4, S4, fl, Ls, cl, L1, L2, bl, au, cls, ref, w, ⟨p4, cr4⟩, ⟨us, up, uc⟩, ⟨hL1, hL2, hbl⟩, ⟨l1b, ln1, l2n, ln2, l2b⟩, kuB, bl0, nb, nb1, nb2, nb3⟩ := un_new (N := N) h hnu g gx gb gB ga gq hN x
      obtain ⟨⟨⟨kk, kt, k2⟩, kd8, krows, k8, k9⟩, ⟨c1, c2, c3, c4, c5, c6, c7, c8, c9, c10, c11, c12⟩, ⟨o0, o1, o6, o7', o8', o9, o12, o13, oR, oS, r10, r11, hA, hB⟩, wds, f1, f2, f3, f4, uh, f5, f6, f7, f8⟩ := id w
      have gR : ∀ r, r ∈ R → r < nu := fun r hr => (g.2.2.2.2 r hr).1
      have g6 : R.length ≤ 6 := g.2.2.2.1
      have hat : a' ≤ t := p4.2.2.1
      have e5 := e.2.2.2.2.1
      have e4 := e.2.2.2.1
      have room : nu < min ((t + 1) / 4 + 1) 24 := by omega
      have q4 := rw.1 4 23 (by decide)
      have q5 := rw.1 5 26 (by decide)
      have q6 := rw.1 6 22 (by decide)
      have d0 := dv.2.2
      have e4' : sm + 1 + 4 = sm + 5 := by omega
      have e5' : sm + 1 + 5 = sm + 6 := by omega
      have e6' : sm + 1 + 6 = sm + 7 := by omega
      rw [e4'] at q4
      rw [e5'] at q5
      rw [e6'] at q6
      rw [hadd K2 M2 au, cls, href, ref]
      have kle := kR_le S bn nu
      have b23 := bud23 nu hnu (kR S bn nu) (by omega) kle
      -- the state of the body
      have pu4 := w.pu us up pu ⟨by rw [q5.2.2]; exact room, by rw [q6.2.2]; exact room⟩ ⟨hz, hh.2.1⟩ hnu gB g6 gR gx gx2 hL1 l1b ln1
      have cd4 := w.cd dd ⟨hlast.1, fun m hm => (hlast.2 m hm).1⟩ (a' := a') (by omega)
      have le4 := w.le l gR g6 hnu
      have ev : EVP z b bn sm t K0 K2 := ⟨e.1, e.2.1, e.2.2.1, e.2.2.2.1, by omega, ⟨e.2.2.2.2.2.1.1.tr kk, by omega, by omega⟩, by rw [(kk.2 _ (by omega)).2]; exact e.2.2.2.2.2.2⟩
      have nw : NNw z K2 M4 S4 bn sm nd (nu + 1) nm := by
        refine ⟨n1, by rw [f1 12 (by decide) (by decide) (by decide)]; exact n2, by rw [c11 _ _ (by omega) (by omega)]; exact n3, by rw [(kk.2 _ (by omega)).1]; exact n4, n5, by omega, n7, by rw [c4 10 (by decide) (by decide)]; exact n8, by rw [w.rows (k := 13) (by decide) (by decide)]; exact n9, c5, f6, ?_, ?_⟩
        · have q := n14.ke (K1 := K2) (M' := M4) hr.1 (c11 _ _ (by omega) (by omega)) (c8 _ (by omega) (by omega) (by omega)) (kk.2 _ (by omega)).1 (kk.2 _ (by omega)).2
          exact q.st (q := sm + 1) (by rw [c11 _ _ (by omega) (by omega)]; exact hr.1) rfl rfl (f3 14 (by decide))
        · have q := n15.push (M' := M4) (S' := S4) (x := x) hr.2.1 (by rw [c11 _ _ (by omega) (by omega)]; exact hr.2.1) (by rw [q4.2.2]; exact room) c9 f4 fr.1 fr.2.2.1
          obtain ⟨q0, y1, y2, y3, y4, y5, y6⟩ := q
          have eq : q0 = sm + 5 := by rw [c11 _ _ (by omega) (by omega), hr.2.1] at y1; cases y1; rfl
          subst eq
          exact ⟨sm + 5, y1, by rw [(kk.2 _ (by omega)).1]; exact y2, by rw [(kk.2 _ (by omega)).2]; exact y3, by rw [(kk.2 _ (by omega)).2]; exact y4, y5, y6⟩
      have s1 : nI (nu + 1) - 1 = nI nu := sub1 nu (by omega)
      obtain ⟨v, hv⟩ : ∃ v, cc + bl.length + 1 + v = 2 * a' := ⟨2 * a' - (cc + bl.length + 1), by
        have : bl.length ≤ 1 + nb := by
          refine Nat.le_trans nb3 ?_
          split <;> omega
        omega⟩
      have ps : PS z b bn sm size t nd (nu + 1) nm (nu + 1) (fun u' y => u' = nu ∧ LNx S4 (24 * bn + nu) y) K0 K2 M4 S4 (umk rc (cc + bl.length + 1) bl :: mk) (0, [], 0) rc (cc + bl.length + 1) a' v 0 0 :=
        ⟨ev, ⟨nw, by rw [c11 _ _ (by omega) (by omega), c11 _ _ (by omega) (by omega), c11 _ _ (by omega) (by omega)]; exact hr, pu4, by rw [f1 42 (by decide) (by decide) (by decide)]; exact h42, by rw [s1]; exact f7, by rw [s1]; exact c3, Nat.le_refl _⟩, p4, cr4, cd4, le4, by rw [f1 38 (by decide) (by decide) (by decide)]; exact h38, f8, by omega, by omega⟩
      have agA := w.aga (K0 := K0) ⟨e4, hh.2.1⟩
      have agO := w.ago e.1 e.2.1 hnu
      rcases ub_ok (N := N) (tu := kz K) ps (Nat.lt_succ_self nu) c12 (fun u' y _ _ => Iff.rfl) hN with ⟨M5, S5, mk', rc', cc', a5, y1, y2, y3, fu, ps5, y4, y5, y6, y7⟩ | y
      · left
        have fu' := fu
        obtain ⟨u1, u2, u3, u4, u5, u6, u7, u8, u9, u10, u11, u12⟩ := fu
        obtain ⟨ev5, ⟨nw5, rr5, pu5, z42, -, -, -⟩, p5, cr5, cd5, le5, z38, -, zb, -⟩ := id ps5
        obtain ⟨w1, w2, w3, w4, w5, w6, w7, w8, w9, w10, w11, w14, w15⟩ := nw5
        have cR5 : ∀ q s, q < kz K → ¬ (q = sm + 6 ∧ s = nu) → cR M5 q s = cR M q s := fun q s q1 q2 => by rw [u4]; exact c11 q s q1 q2
        have rcl : rc < rc' := by
          obtain ⟨-, gg, pg, Jg, g1, g2, g3, g4, -⟩ := cd5
          have m1 := (g4 _ (y5 _ (List.mem_cons_self ..))).2
          have m2 := m1.2 rfl
          have m3 := g4 _ y4
          have m4 := (m3.1 (by show (0 : Nat) ≠ 99; decide)).1
          have m5 : rc' - 1 < rc' := m4
          have m6 : rc ≤ rc' := m2.1
          by_cases q : rc = rc'
          · exfalso
            have m7 := m2.2.2.2.2.1 (rc' - 1) (by show rc' - 1 < rc; omega)
            have m8 : pg (rc' - 1) + tw (gg (rc' - 1)) + (bl.length + 1) ≤ cc + bl.length + 1 := m7
            have m9 : pg rc = cc + bl.length + 1 := m1.1
            have m10 : pg (rc' - 1) = cc' - 1 := m3.2.1
            have m11 : pg rc' = cc' := g1.1
            have m12 := (tw_pos (gg (rc' - 1))).1
            rw [q, m11] at m9
            omega
          · omega
        have mlt : ∀ m, m ∈ mk' → m.1 < rc' ∧ (m.2.2.1.1 = 99 ∨ m.2.2.1.1 < 28) := fun m hm => by
          rcases y6 m hm with q | q
          · rcases List.mem_cons.mp q with q | q
            · rw [q]; exact ⟨rcl, Or.inl rfl⟩
            · have := hlast.2 m q; exact ⟨by omega, this.2⟩
          · exact q
        have u8' : ∀ k, k ≠ 33 → k ≠ 34 → ¬ (25 ≤ k ∧ k ≤ 31) → ¬ (39 ≤ k ∧ k ≤ 47) → k ≠ 53 → ¬ (20 ≤ k ∧ k ≤ 25) → k ≠ 18 ∧ k ≠ 30 ∧ k ≠ 31 ∧ k ≠ 32 ∧ k ≠ 33 → mA S5 k = mA S k := fun k a1 a2 a3 a4 a5 a6 a7 => (u8 k a1 a2 a3 a4 a5).trans (w.rows a6 a7)
        have s20 : mA S5 20 = mA S4 20 := u8 20 (by decide) (by decide) (by decide) (by decide) (by decide)
        refine ⟨K2, M5, S5, nd, nu + 1, nm, mk', rc', cc', a5, y1, y2, by omega, agA.tr u11, agO.tr u12, ⟨ev5, p5, cr5, cd5, le5, z42, z38, Or.inr y4, mlt⟩, ⟨⟨w1, w2, w3, w4, w5, w6, w7, w8, w9, w10, w11, ?_, ?_, w14, w15, ?_⟩, pu5, ⟨dv.1, w4, fun sl kind hm => ?_⟩, ⟨fun sl kind hm => ?_, fun sl kind hm => ?_⟩, ?_, fun d hd => ?_, ?_⟩, by omega, ?_, by omega, by omega⟩
        · rw [u6 12 (by decide), c4 12 (by decide) (by decide)]; exact n12
        · rw [u8' 35 (by decide) (by decide) (by decide) (by decide) (by decide) (by decide) (by decide)]; exact n13
        · have q := n16.ke (K1 := K2) (M' := M5) hr.2.2 (cR5 _ _ (by omega) (by omega)) ((u3 _ (by omega) (by omega)).trans (c8 _ (by omega) (by omega) (by omega))) (kk.2 _ (by omega)).1 (kk.2 _ (by omega)).2
          exact q.st (q := sm + 8) (by rw [cR5 _ _ (by omega) (by omega)]; exact hr.2.2) rfl rfl ((u10 36 (by decide)).trans (f3 36 (by decide)))
        · have hsl : sl = 0 ∨ sl = 1 ∨ sl = 2 ∨ sl = 3 := by
            simp only [List.mem_cons, List.not_mem_nil, or_false, Prod.mk.injEq] at hm
            omega
          obtain ⟨m1, m2, m3⟩ := d0 sl kind hm
          exact ⟨by rw [cR5 _ _ (by omega) (by omega)]; exact m1, by rw [(kk.2 _ (by omega)).1]; exact m2, by rw [(kk.2 _ (by omega)).2]; exact m3⟩
        · have hsl : sl = 4 ∨ sl = 5 ∨ sl = 6 := by
            simp only [List.mem_cons, List.not_mem_nil, or_false, Prod.mk.injEq] at hm
            omega
          obtain ⟨m1, m2, m3⟩ := rw.1 sl kind hm
          exact ⟨by rw [cR5 _ _ (by omega) (by omega)]; exact m1, by rw [(kk.2 _ (by omega)).1]; exact m2, by rw [(kk.2 _ (by omega)).2]; exact m3⟩
        · have hsl : sl = 7 ∨ sl = 8 := by
            simp only [List.mem_cons, List.not_mem_nil, or_false, Prod.mk.injEq] at hm
            omega
          obtain ⟨m1, m2, m3⟩ := rw.2 sl kind hm
          exact ⟨by rw [cR5 _ _ (by omega) (by omega)]; exact m1, by rw [(kk.2 _ (by omega)).1]; exact m2, by rw [(kk.2 _ (by omega)).2]; exact m3⟩
        · unfold DVD at dvd ⊢
          have i5 : ∀ q, sm + 2 ≤ q → q ≤ sm + 4 → cI M5 q = cI M q := fun q q1 q2 => (u1 q (by omega) (by omega) (by omega) (by omega) (by omega) (by omega)).trans (c1 q (by omega) (by omega) (by omega) (by omega))
          rw [i5 (sm + 2) (by omega) (by omega), i5 (sm + 3) (by omega) (by omega), i5 (sm + 4) (by omega) (by omega), u8' 15 (by decide) (by decide) (by decide) (by decide) (by decide) (by decide) (by decide), u8' 16 (by decide) (by decide) (by decide) (by decide) (by decide) (by decide) (by decide), u8' 17 (by decide) (by decide) (by decide) (by decide) (by decide) (by decide) (by decide)]
          exact dvd
        · obtain ⟨r, c', m1, m2, m3⟩ := dmd d hd
          exact ⟨r, c', by rw [u1 _ (by omega) (by omega) (by omega) (by omega) (by omega) (by omega), c1 _ (by omega) (by omega) (by omega) (by omega)]; exact m1, by rw [u8' 37 (by decide) (by decide) (by decide) (by decide) (by decide) (by decide) (by decide)]; exact m2, y5 _ (List.mem_cons_of_mem _ m3)⟩
        · exact u_und w fu' up uc ⟨hz, hh.2.1⟩ hnu y5 g6 gR (fun r hr => (g.2.2.2.2 r hr).2) gb gB hL2 hbl l2n ln2 y7
        · have kr : kR S5 bn (nu + 1) = kR S bn nu + (if x1 = 0 then 1 else 0) := by
            rw [kR_succ, s20, uh.1]
            congr 1
            exact kR_c nu (fun u hu => by rw [s20]; exact w.row (by decide) (by decide) hu)
          rw [kr]
          by_cases q : x1 = 0
          · have bl1 := bl0 q
            rw [if_pos q]
            have m1 : nu + 1 - (kR S bn nu + 1) = nu - kR S bn nu := by omega
            have m2 : (nu - kR S bn nu) * (kR S bn nu - 10) ≤ (nu - kR S bn nu) * (kR S bn nu + 1 - 10) := Nat.mul_le_mul_left _ (by omega)
            rw [m1]
            omega
          · have m1 : nu + 1 - kR S bn nu = (nu - kR S bn nu) + 1 := by omega
            have m3 : (nu + 1 - kR S bn nu) * (kR S bn nu - 10) = (nu - kR S bn nu) * (kR S bn nu - 10) + (kR S bn nu - 10) := by rw [m1, Nat.add_mul, Nat.one_mul]
            rw [if_neg q, Nat.add_zero, m3]
            clear m3 m1
            generalize (nu - kR S bn nu) * (kR S bn nu - 10) = P at *
            generalize kR S bn nu = k at *
            rcases gp with y | y
            · rw [if_pos y] at nb3
              rcases gq with y' | y'
              · have := nb2 y'; omega
              · omega
            · have nb3' : bl.length ≤ 1 + nb := by
                refine Nat.le_trans nb3 ?_
                split <;> omega
              rcases gq with y' | y'
              · have := nb2 y'; omega
              · omega
      · exact Or.inr (FT.pre (FB.ft y) agA agO)
    · exact Or.inr v
    · exact Or.inr v
  · right
    have e20' : nu = 24 := by omega
    obtain ⟨f, g1, g2, g3⟩ := rf_nI p N (w := 5) (by omega) (by omega)
    have g2' : fT_X3_refuse N (z + 7) 5 K M = some (.inr (K, wI M (z + 7) 5 (nI f))) := g2
    have g3' : fM_wrong N 5 S = some (pF S 8 (nI f)) := g3
    have cls : fT_X3_readUnit N (z + 7) K M = some (.inr (K, wI M (z + 7) 5 (nI f))) := by
      unfold fT_X3_readUnit
      rw [gd_k k7, nn_s n3, gd_k n4, n10, if_neg (show ¬ nI nu < 24 from nI_nlt (b := 24) (by omega) (by omega)), g2', tb_r]
    have ref : fM_toldUnit N S = some (pF S 8 (nI f)) := by
      unfold fM_toldUnit
      rw [n2, ck_n b2 (by decide), nI_clamp (show bn < 2 ^ 31 by omega), n11, if_pos (show nI nu = 24 by rw [e20']; rfl), g3', bs]
    rw [cls, ref]
    exact ⟨f, K, _, _, g1, rfl, e.2.2.2.2.2.1, ⟨fun a' _ q => ⟨by rw [cI_wI_ne _ _ _ q], rfl⟩, fun _ _ _ _ => rfl⟩, by rw [cI_w, if_pos ⟨rfl, rfl⟩], rfl, ⟨g1, rfl⟩, AgO.pF o8 _⟩
end TUNIT2
