/-! a text read from start to end by both -/
/-- the code relation looks only at the station's own rows -/
def BKn (bn k j : Nat) : Prop := bw k ≠ 0 ∧ bw k * bn ≤ j ∧ j < bw k * bn + bw k
theorem cwd_pw {bn nd nu : Nat} {S S' : Ms} {pi : Nat → Nat} {g : Nat × Nat × Nat} (hn : nu ≤ 24) (v : VO6 bn S nd nu g) (hg : g.1 ≤ 24) (hA : ∀ k j, 25 ≤ k → k ≤ 41 → k ≠ 34 → BKn bn k j → mA S' k j = mA S k j) : cwd bn S' pi g = cwd bn S pi g := by
  by_cases h3 : g.1 = 3
  · obtain ⟨w1, ⟨ni, w2, w3, w4⟩, -⟩ := v.2.1 h3
    have e : ∀ T : Ms, cwd bn T pi g = wd 3 (nI g.2.1) (mA T 28 (sl8 bn g.2.1 g.2.2)) := fun T => by
      unfold cwd
      rw [if_neg (by omega), if_neg (by omega), if_neg (by omega), if_pos h3]
    rw [e, e, hA 28 (sl8 bn g.2.1 g.2.2) (by decide) (by decide) (by decide) (by unfold BKn sl8; rw [show bw 28 = 192 from rfl]; omega)]
  · by_cases h4 : g.1 = 4
    · obtain ⟨w1, ⟨ni, w2, w3, w4⟩, -⟩ := v.2.2.1 (Or.inl h4)
      have e : ∀ T : Ms, cwd bn T pi g = wd 4 (nI g.2.1) (mA T 29 (sl8 bn g.2.1 g.2.2)) := fun T => by
        unfold cwd
        rw [if_neg (by omega), if_neg (by omega), if_neg (by omega), if_neg h3, if_pos h4]
      rw [e, e, hA 29 (sl8 bn g.2.1 g.2.2) (by decide) (by decide) (by decide) (by unfold BKn sl8; rw [show bw 29 = 192 from rfl]; omega)]
    · by_cases h5 : g.1 = 5
      · obtain ⟨w1, ⟨ni, w2, w3, w4⟩, -⟩ := v.2.2.1 (Or.inr h5)
        have e : ∀ T : Ms, cwd bn T pi g = wd 5 (nI g.2.1) (mA T 29 (sl8 bn g.2.1 g.2.2)) := fun T => by
          unfold cwd
          rw [if_neg (by omega), if_neg (by omega), if_neg (by omega), if_neg h3, if_neg h4, if_pos h5]
        rw [e, e, hA 29 (sl8 bn g.2.1 g.2.2) (by decide) (by decide) (by decide) (by unfold BKn sl8; rw [show bw 29 = 192 from rfl]; omega)]
      · unfold cwd
        rw [if_neg h3, if_neg h3, if_neg h4, if_neg h4, if_neg h5, if_neg h5]
theorem VO6.pw {bn nd nu : Nat} {S S' : Ms} {g : Nat × Nat × Nat} (hn : nu ≤ 24) (v : VO6 bn S nd nu g) (hA : ∀ k j, 25 ≤ k → k ≤ 41 → k ≠ 34 → BKn bn k j → mA S' k j = mA S k j) : VO6 bn S' nd nu g := by
  have sl : ∀ p q x, p < nu → SLs S bn p q x → SLs S' bn p q x := fun p q x hp ⟨⟨ni, w2, w3, w4⟩, w5⟩ => by
    refine ⟨⟨ni, w2, ?_, w4⟩, ?_⟩
    · rw [hA 25 _ (by decide) (by decide) (by decide) (by unfold BKn; rw [show bw 25 = 24 from rfl]; omega)]; exact w3
    · rw [hA 27 _ (by decide) (by decide) (by decide) (by unfold BKn sl8; rw [show bw 27 = 192 from rfl]; omega)]; exact w5
  obtain ⟨v1, v2, v3, v4, v5, v6⟩ := v
  exact ⟨v1, fun q => ⟨(v2 q).1, sl _ _ _ (v2 q).1 (v2 q).2⟩, fun q => ⟨(v3 q).1, sl _ _ _ (v3 q).1 (v3 q).2⟩, v4, v5, v6⟩
theorem CDF.pw {bn sm nd nu : Nat} {M M' : Cm} {S S' : Ms} {mk : List Mk} {rc cc : Nat} (hn : nu ≤ 24) (hrc : rc ≤ 10000) (hL : cL M' (sm + 10) = cL M (sm + 10)) (hA : ∀ k j, 25 ≤ k → k ≤ 41 → k ≠ 34 → BKn bn k j → mA S' k j = mA S k j) (h : CDF bn sm nd nu M S mk rc cc) : CDF bn sm nd nu M' S' mk rc cc := by
  obtain ⟨g, pi, J, ⟨g1, g2, g3, g4, g5, g6, g7, g8⟩, h2, h3, h4, h5⟩ := h
  refine ⟨g, pi, J, ⟨g1, fun i hi => ?_, g3, g4, by rw [hL]; exact g5, by rw [hL]; exact g6, g7, by rw [hL]; exact g8⟩, fun i hi => ⟨(h2 i hi).1, (h2 i hi).2.1.pw hn hA, (h2 i hi).2.2⟩, fun m hm => ⟨(h3 m hm).1, fun q => ?_⟩, h4, h5⟩
  · have e : ∀ k, k = 39 ∨ k = 40 ∨ k = 41 → mA S' k (10000 * bn + i) = mA S k (10000 * bn + i) := fun k hk => hA k _ (by omega) (by omega) (by omega) (by
      unfold BKn
      rcases hk with rfl | rfl | rfl
      · rw [show bw 39 = 10000 from rfl]; omega
      · rw [show bw 40 = 10000 from rfl]; omega
      · rw [show bw 41 = 10000 from rfl]; omega)
    rw [hL, cwd_pw hn (h2 i hi).2.1 (h2 i hi).2.2 hA, e 39 (by omega), e 40 (by omega), e 41 (by omega)]
    exact g2 i hi
  · have := (h3 m hm).2 q
    unfold MC at this ⊢
    rw [hL]
    exact this
/-- a station as it was read -/
def FIN (z b bn sm t : Nat) (K0 K : Ka) (M : Cm) (S : Ms) (nd nu nm : Nat) (mk : List Mk) (rc cc : Nat) : Prop :=
  (EVP z b bn sm t K0 K ∧ t ≤ 4000 ∧ CR z K M sm cc ∧ cc ≤ 8000 ∧ mF S 8 = 0) ∧ NN z K M S bn sm nd nu nm ∧ PU K M S bn sm nu ∧ DVR z K M sm (t + 1) ∧ RWS K M sm t ∧ DVD M S bn sm nd ∧ DMD M S bn sm nm mk ∧ UND K M S bn sm nu mk ∧ CDF bn sm nd nu M S mk rc cc ∧ LEf bn sm nu M S
section READ
variable {z b bn sm size t nd nu nm rc cc : Nat} {K0 K : Ka} {M M0 M' : Cm} {S S0 S' : Ms} {mk : List Mk}
theorem FFr.s (h : FFr b S S') : SFr b S S' := ⟨fun k _ _ _ => by rw [h.1], fun k h1 _ _ => h.2.1 k h1, h.2.2.1, h.2.2.2⟩
theorem CR.cf (hc : CF sm M M') (hf : FR z b sm K0 M M' S S') (h : CR z K M sm cc) : CR z K M' sm cc := by
  obtain ⟨h1, h2, h3, h4, h5, h6, h7, h8, h9⟩ := h
  have hl : LY z K M' := by
    unfold LY at h1 ⊢
    rw [hf.2.2.1]
    exact h1
  exact ⟨hl, h2, by rw [hf.2.2.1]; exact h3, h4, by rw [hf.2.2.1]; exact h5, h6, h7, by rw [hc.1 sm (by omega)]; exact h8, h9⟩
/-- what was told stands while that which waited is settled and leans are spread -/
theorem DVR.cR {tok : Nat} (hR : cR M' = cR M) (h : DVR z K M sm tok) : DVR z K M' sm tok := by
  unfold DVR at h ⊢
  rw [hR]
  exact h
theorem RWS.cR (hR : cR M' = cR M) (h : RWS K M sm t) : RWS K M' sm t := by
  unfold RWS at h ⊢
  rw [hR]
  exact h
theorem mk_all (h : TS z b bn sm size t K0 K M S nd nu nm mk rc cc t) (gA : AgA z K0 M0 M) (gO : AgO b S0 S) {N : Nat} (hN : 8020 < N) :
    (∃ M' S', bT_X3_make_136 N (z + 7) K M = some (.inl (sm, K, M')) ∧ bM_station_192 N S = (fM_forget N (pF S' 11 (nI bn))).bind (fun o => some (mF o 8, o)) ∧ AgA z K0 M0 M' ∧ AgO b S0 S' ∧ FIN z b bn sm t K0 K M' S' nd nu nm mk rc cc) ∨
    FZ z b K0 M0 S0 (bT_X3_make_136 N (z + 7) K M) (bM_station_192 N S) := by
  rcases set_ok h gA gO hN with ⟨M1, S1, a1, a2, a3, a4, a5, a6⟩ | hf
  · left
    obtain ⟨⟨e, p, c, dd, l, h42, h38, hlast⟩, ⟨n, pu, dv, rw, dvd, dmd, und⟩, bud1, bud2, bud3, bud4⟩ := id h
    obtain ⟨n1, n2, n3, n4, n5, n6, n7, n8, n9, n10, n11, n12, n13, n14, n15, n16⟩ := id n
    have hz : z + 174 ≤ sm := by have := e.2.2.1; have := e.2.2.2.1; omega
    have hk0 := e.2.2.2.1
    have t4 : t ≤ 4000 := by have := p.2.1.1; have := p.2.1.2.1; omega
    have bd := kR_bud n6 S bn
    have f1 : FR z b sm K0 M M1 S S1 := a3.fr a4 hz hk0
    obtain ⟨p1, p2, p3⟩ := id pu
    have c1 := CR.cf a3 f1 c
    obtain ⟨M2, S2, s1, s2, s3, s4, s5, s6⟩ := sp_ok (N := N) (b := b) (bn := bn) (sm := sm) (nu := nu) (K := K) (M := M1) (S := S1) e.1 e.2.1 n4 (by rw [f1.2.2.2.2.1 11 (by decide)]; exact n10) (by rw [f1.2.2.1]; exact p2.1) p2.2.1 p2.2.2.1 p2.2.2.2.1 (by omega) (by rw [a4.1 12 (by decide) (by decide) (by decide)]; exact n2) a6
    have f2 : FR z b sm K0 M1 M2 S1 S2 := s3.fr s5.s hz hk0
    have f12 := f1.tr f2
    have rr : ∀ sl, sl = 0 ∨ sl = 4 ∨ sl = 7 → ∀ a, cR M sm sl = some a → a ≠ sm + 10 := fun sl hs a ha => by
      rcases hs with rfl | rfl | rfl
      · rw [(dv.2.2 0 23 (by decide)).1] at ha; cases ha; omega
      · rw [(rw.1 4 23 (by decide)).1] at ha; cases ha; omega
      · rw [(rw.2 7 23 (by decide)).1] at ha; cases ha; omega
    have m8 : mF S1 8 = 0 := by rw [a4.1 8 (by decide) (by decide) (by decide)]; exact p.2.2.2.2.1
    have c2 := CR.cf s3 f2 c1
    have hrc : rc ≤ cc := by obtain ⟨-, g, pi, J, g1, -⟩ := dd; exact rc_cc g1
    refine ⟨M2, S2, ?_, ?_, gA.tr f12.2.2.2.2.2.2.2.2.1, gO.tr f12.2.2.2.2.2.2.2.2.2, ⟨e, t4, c2, by omega, ?_⟩, n.fr f12 hz rr, pu.fr f12 hz, dv.cR f12.2.2.1, rw.cR f12.2.2.1, dvd.fr f12 hz, dmd.fr f12 hz (fun _ q => q), und.fr f12 hz (fun _ q => q), ?_, s6⟩
    · rw [a1]
      unfold bT_X3_make_140
      rw [gd_k (c1.1.k 7 4 0 rfl), nn_s c1.2.2.1, gd_k c1.2.2.2.1, s1, bs, nn_s c2.2.2.1]
    · rw [a2]
      unfold bM_station_220
      rw [if_pos m8, s2, bs]
      have e12 : mF S2 12 = nI bn := by rw [s5.1, a4.1 12 (by decide) (by decide) (by decide)]; exact n2
      rw [e12]
      rfl
    · rw [s5.1]; exact m8
    · exact a5.pw n6 (by omega) (by rw [s4]) (fun k j _ _ q _ => by rw [s5.2.1 k q])
  · exact Or.inr hf
end READ
