/-! scan as a whole, and named -/
section NAMED
variable {z : Nat} {K : Ka} {M : Cm} {S : Ms} {b st nd nu nm : Nat}
theorem scan_ok (h : RelP z K M S b st nd nu nm) (N : Nat) (hN : 4001 < N) : ∃ M' S' size t, fC_X6_scan N K (z + 1) M = some M' ∧ fM_cutAll N S = some S' ∧ TK z M' S' size t ∧ AgM (fun a => a ≠ z + 1 ∧ a ≠ z + 3 ∧ a ≠ z + 4 ∧ a ≠ z + 5) M M' ∧ AgS (fun k => k ≠ 2 ∧ k ≠ 3 ∧ k ≠ 7 ∧ k ≠ 8) (fun k => k ≠ 4 ∧ k ≠ 5 ∧ k ≠ 6) S S' ∧ mF S' 2 = 0 := by
  obtain ⟨h1, -, h3, h4, -⟩ := h
  obtain ⟨size, n4, t1, t2, t3⟩ := h3
  have sg : SG z K (wI M (z + 1) 6 0) (pF (pF S 3 (mF S 2)) 2 0) size := by
    refine ⟨h1, n4, ?_, ?_, ?_, h4.1⟩
    · rw [cI_w, if_neg (by omega)]; exact t1
    · rw [mF_F, if_neg (by decide), mF_F, if_pos rfl]; exact t2
    · rw [cI_wI_ne _ _ _ (show z + 2 ≠ z + 1 by omega)]
      exact t3
  obtain ⟨M', S', t, a1, a2, a3, a4, a5⟩ := sc_loop N hN N 0 0 0 _ _ sg (by omega) (by omega) (by omega) (by omega) (by rw [cI_w, if_pos ⟨rfl, rfl⟩]; rfl) (fun j hj => by omega)
  refine ⟨M', S', size, t, ?_, a2, a3, ⟨fun a ha => by rw [a4.1 a ha, cI_wI_ne _ _ _ ha.1], fun a ha => by rw [a4.2.1 a ha, cL_I], by rw [a4.2.2, cR_I]⟩, ⟨fun k hk => by rw [a5.1 k ⟨hk.2.2.1, hk.2.2.2⟩, mF_F, if_neg hk.1, mF_F, if_neg hk.2.1], fun k hk => by rw [a5.2.1 k hk, mA_F, mA_F], fun k hk => by rw [a5.2.2 k hk, mL_F, mL_F]⟩, by rw [a5.1 2 (by decide), mF_F, if_pos rfl]⟩
  unfold fC_X6_scan
  rw [gd_k (h1.k 1 7 0 rfl)]
  exact a1
/-- the tape emptied -/
theorem scan_rel (h : RelP z K M S b st nd nu nm) {M' : Cm} {S' : Ms} (hM : AgM (fun a => a ≠ z + 1 ∧ a ≠ z + 3 ∧ a ≠ z + 4 ∧ a ≠ z + 5) M M') (hS : AgS (fun k => k ≠ 2 ∧ k ≠ 3 ∧ k ≠ 7 ∧ k ≠ 8) (fun k => k ≠ 4 ∧ k ≠ 5 ∧ k ≠ 6) S S') (h2' : mF S' 2 = 0) : RelP z K (wI M' (z + 1) 5 0) S' b st nd nu nm := by
  have hM : AgM (fun a => a ≠ z + 1 ∧ a ≠ z + 3 ∧ a ≠ z + 4 ∧ a ≠ z + 5) M (wI M' (z + 1) 5 0) := ⟨fun a ha => by rw [cI_wI_ne _ _ _ ha.1, hM.1 a ha], fun a ha => by rw [cL_I, hM.2.1 a ha], by rw [cR_I, hM.2.2]⟩
  obtain ⟨h1, h2, h3, h4, h5, h6, h7, h8, h9, h10, h11, h12, h13, h14, h15, h16, h17, h18⟩ := h
  refine ⟨h1.sb hM, h2.sb hM hS (by omega) (by decide), ?_, h4.sb hM hS (by omega) (by decide), h5.sb hM hS (by omega) (by decide) (by decide), h6.sb hM hS (by omega) (by decide) (by decide), h7.sb hM hS (by omega) (by decide) (by decide), h8.sb hM hS (by omega) (by decide) (by decide), h9.sb hM hS (by omega) (by decide) (by decide), h10.sb hM hS (by omega) (by decide) (by decide), h11.sb hM hS (by omega) (by decide), h12.sb hM hS (by omega) (by decide), h13.sb hM hS (fun a ha => by omega) (by decide) (by decide), h14.sb hM hS (fun a ha => by omega) (by decide), h15.sb hM hS (fun a ha => by omega) (by omega) (by decide) (by decide), h16.sb hM hS (fun a ha => by omega) (by decide), h17.sb hM hS (fun a ha => by omega) (fun k _ _ => by omega), h18⟩
  exact ⟨0, by omega, by rw [cI_w, if_pos ⟨rfl, rfl⟩]; rfl, h2', fun j hj => by omega⟩
theorem nm_ok (N : Nat) {row base n a : Nat} (h : NM1 S row base n) (hN : n < N) (hk : kd K a = 23) (hl : n ≤ le K a) (hm : le K a < 2 ^ 31) (hs : srt row = 2) (hl2 : base + n ≤ lnM row) (hm2 : lnM row < 2 ^ 31) (he : ∀ d, d < n → cL M a d = mL S row (base + d)) (x : Int64) : ∃ r, fC_X8_rankOf N K x a (nI n) M = some (r, M) ∧ fM_find N row (nI base) (nI n) x S = some (r, S) := by
  rcases rk_ok N (M := M) x hk hl hm N 0 (by omega) (by omega) with ⟨r, r1, r2, r3, r4, r5⟩ | ⟨r1, r2⟩
  · rcases fd_ok N (S := S) x hs hl2 hm2 N 0 (-1) (by omega) (by omega) with ⟨r', s1, s2, s3, s4, s5⟩ | ⟨s1, s2⟩
    · have e : r = r' := h.2 r r' r2 s2 (by rw [← he r r2, r3, s3])
      subst e
      exact ⟨nI r, r5, s5⟩
    · exact absurd (by rw [← he r r2]; exact r3) (s1 r (by omega) r2)
  · rcases fd_ok N (S := S) x hs hl2 hm2 N 0 (-1) (by omega) (by omega) with ⟨r', s1', s2', s3, s4, s5⟩ | ⟨s1, s2⟩
    · exact absurd (by rw [he r' s2']; exact s3) (r1 r' (by omega) s2')
    · exact ⟨-1, r2, s2⟩
theorem nm_kw (N : Nat) {row base n : Nat} (h : NM1 S row base n) (hN : n < N) (hs : srt row = 2) (hl2 : base + n ≤ lnM row) (hm2 : lnM row < 2 ^ 31) {x : Int64} (hx : ∃ r, r < 25 ∧ x = kwT r) : fM_find N row (nI base) (nI n) x S = some (-1, S) := by
  rcases fd_ok N (S := S) x hs hl2 hm2 N 0 (-1) (by omega) (by omega) with ⟨r', s1, s2, s3, s4, s5⟩ | ⟨s1, s2⟩
  · obtain ⟨r, q1, q2⟩ := hx
    exact absurd (s3.trans q2) (h.1 r' s2 r q1)
  · exact s2
/-- what the class does behind the tokens -/
theorem nm_c0 (hLY : LY z K M) (N : Nat) (v1 : Int32) : bC_X8_named_34 N K z v1 M = some (-1, wI M (z + 1) 5 0) := by
  unfold bC_X8_named_34 bC_X8_named_35
  have hv : ∃ w, fC_X6_valueAt N K (z + 1) 0 M = some (w, M) := by
    unfold fC_X6_valueAt bC_X6_valueAt_12 bC_X6_valueAt_22
    rw [if_neg (by decide), gd_k (hLY.k 1 7 0 rfl)]
    by_cases q : (0 : Int32) < cI M (z + 1) 6
    · rw [if_pos q, nn_s (hLY.r 1 3 5 (by decide)), gd_k (hLY.k 5 23 4001 rfl), hLY.l 5 23 4001 rfl (by decide), show (0 : Int32) = nI 0 from rfl, ck_n (by decide) (by decide)]
      exact ⟨_, rfl⟩
    · rw [if_neg q]
      exact ⟨_, rfl⟩
  obtain ⟨w, hv⟩ := hv
  rw [gd_k hLY.k9, nn_s (hLY.r0 0 1 (by decide)), gd_k (hLY.k 1 7 0 rfl), hv, bs]
  dsimp only
  rw [nn_s (hLY.r0 0 1 (by decide)), gd_k (hLY.k 1 7 0 rfl)]
  unfold fC_X6_empty
  rw [gd_k (hLY.k 1 7 0 rfl), bs, if_pos rfl]
theorem g_named (h : RelP z K M S b st nd nu nm) (N : Nat) (hN : 4001 < N) (v1 : Int32) : ∃ M' S', fS_named N z v1 K M S = some (K, M', S') ∧ RelP z K M' S' b st nd nu nm ∧ FRQ z M M' S S' := by
  obtain ⟨M1, S1, size, t, a1, a2, a3, a4, a5, a6⟩ := scan_ok (h.thr 0) N hN
  have hr := scan_rel (h.thr 0) a4 a5 a6
  refine ⟨_, S1, ?_, hr, (FRQ.t0 z M S 0).tr ⟨⟨fun a ha => by rw [cI_wI_ne _ _ _ (by omega), a4.1 a (by omega)], fun a ha => by rw [cL_I, a4.2.1 a (by omega)], by rw [cR_I, a4.2.2]⟩, fun k hk => a5.1 k (by omega), fun k hk => a5.2.1 k (by omega), fun k hk => a5.2.2 k (by omega)⟩⟩
  have hLY := h.1
  have hLY1 : LY z K M1 := hLY.sb a4
  obtain ⟨g1, -, -, -, -, -, -, -, -, -, -, -, hSA, hSD, hSU, hSM, ⟨n1, n2, n3, -⟩, -⟩ := hr
  obtain ⟨hb, hn, s3, s4, s5, hnd, hnu, hnm, s9, s10, s11, s12, s13, s14⟩ := hSA
  obtain ⟨k1, k2, k3, k4, k5, k6, k7, -, -, -, k10, k11⟩ := a3
  have e24 : (24 : Int32) * nI b = nI (24 * b) := by rw [show (24 : Int32) = nI 24 from rfl, nI_mul]
  have e20 : (20 : Int32) * nI b = nI (20 * b) := by rw [show (20 : Int32) = nI 20 from rfl, nI_mul]
  have h6 : cI M1 (z + 1) 6 = nI (t + 1) := k3
  unfold fS_named
  rw [gd_k hLY.k9]
  -- both say NONE
  have none1 : fC_X8_named N K z v1 M = some (-1, wI M1 (z + 1) 5 0) → fM_named N v1 S = some (-1, S1) → ((fC_X8_named N K z v1 M).bind fun o1 => (fM_named N v1 S).bind fun q325 => gd (o1.1 == q325.1) (some (K, o1.2, q325.2))) = some (K, wI M1 (z + 1) 5 0, S1) := fun c m => by rw [c, m]; exact fin rfl
  have cls : fC_X8_named N K z v1 M = (if nI (t + 1) = 2 then (if cI M1 (z + 3) 0 = 2 then bC_X8_named_35 N K z v1 1 M1 else some (-1, wI M1 (z + 1) 5 0)) else some (-1, wI M1 (z + 1) 5 0)) := by
    unfold fC_X8_named
    rw [gd_k hLY.k9, nn_s (hLY.r0 0 1 (by decide)), gd_k (hLY.k 1 7 0 rfl), a1, bs, nn_s (hLY1.r0 0 1 (by decide)), gd_k (hLY.k 1 7 0 rfl), nm_c0 hLY1, h6, nn_s (hLY1.r0 0 1 (by decide)), gd_k (hLY.k 1 7 0 rfl)]
    have hka : fC_X6_kindAt N K (z + 1) 0 M1 = some (cI M1 (z + 3) 0, M1) := by
      unfold fC_X6_kindAt bC_X6_kindAt_22
      rw [if_neg (by decide), gd_k (hLY.k 1 7 0 rfl), h6, if_pos (show (0 : Int32) < nI (t + 1) from nI_lt (a := 0) (by omega) (by omega)), nn_s (hLY1.r 1 1 3 (by decide)), gd_k (hLY.k 3 22 4001 rfl), hLY.l 3 22 4001 rfl (by decide), show (0 : Int32) = nI 0 from rfl, ck_n (by decide) (by decide)]
      rfl
    rw [hka, bs]
    dsimp only
    rw [nm_c0 hLY1]
  have ref : fM_named N v1 S = (if mA S1 4 0 = 1 then (if mA S1 4 1 = 0 then (if v1 = 0 then (fM_find N 14 (nI (24 * b)) (nI nd) (mL S1 6 0) S1) else (if v1 = 1 then (fM_find N 19 (nI (24 * b)) (nI nu) (mL S1 6 0) S1) else (if v1 = 2 then (fM_find N 36 (nI (20 * b)) (nI nm) (mL S1 6 0) S1) else some (-1, S1)))) else some (-1, S1)) else some (-1, S1)) := by
    unfold fM_named bM_named_28 bM_named_144
    rw [a2, bs]
    have b2 : b < 2 := by omega
    have x1 : ∀ {ρ : Type} (k : Option ρ), ck 0 4002 k = k := fun k => ck_n (i := 0) (by decide) (by decide)
    have x2 : ∀ {ρ : Type} (k : Option ρ), ck 1 4002 k = k := fun k => ck_n (i := 1) (by decide) (by decide)
    have y : ∀ (o : Option (Int32 × Ms)), (o.bind fun q => some (q.1, q.2)) = o := fun o => by cases o <;> rfl
    rw [x1, x2, x1, x1, x1, hn, ck_n b2 (by decide), ck_n b2 (by decide), ck_n b2 (by decide), nI_clamp (by omega), e24, e20, s10, s12, s14, y, y, y]
    rfl
  by_cases t1 : t = 1
  · subst t1
    have e2 : nI (1 + 1) = 2 := rfl
    rw [cls, ref, if_pos e2, k6, if_pos (show (0 : Int32) = 0 from rfl)]
    obtain ⟨p0, p1, p2⟩ := k11 0 (by omega)
    rcases p2 with ⟨q1, q2, q3⟩ | q
    · rw [if_pos q1]
      rcases q3 with ⟨r, r1, r2, r3⟩ | ⟨r1, r2⟩
      · rw [r3, if_neg (show ¬ nI (128 + r) = 2 from fun q => by have := (nI_eq (b := 2) (by omega) (by decide)).mp q; omega)]
        have hx : ∃ r, r < 25 ∧ mL S1 6 0 = kwT r := ⟨r, r1, r2⟩
        rw [nm_kw N n1 (by omega) rfl (by show 24 * b + nd ≤ 48; omega) (by decide) hx, nm_kw N n2 (by omega) rfl (by show 24 * b + nu ≤ 48; omega) (by decide) hx, nm_kw N n3 (by omega) rfl (by show 20 * b + nm ≤ 40; omega) (by decide) hx]
        have : (if v1 = 0 then some ((-1 : Int32), S1) else (if v1 = 1 then some (-1, S1) else (if v1 = 2 then some (-1, S1) else some (-1, S1)))) = some (-1, S1) := by
          by_cases w0 : v1 = 0
          · rw [if_pos w0]
          · rw [if_neg w0]
            by_cases w1 : v1 = 1
            · rw [if_pos w1]
            · rw [if_neg w1]
              by_cases w2 : v1 = 2
              · rw [if_pos w2]
              · rw [if_neg w2]
        rw [this]
        exact fin rfl
      · rw [r2, if_pos (show (2 : Int32) = 2 from rfl)]
        unfold bC_X8_named_35
        have hv : fC_X6_valueAt N K (z + 1) 0 M1 = some (mL S1 6 0, M1) := by
          unfold fC_X6_valueAt bC_X6_valueAt_22
          rw [if_neg (by decide), gd_k (hLY.k 1 7 0 rfl), h6, if_pos (show (0 : Int32) < nI (1 + 1) by decide), nn_s (hLY1.r 1 3 5 (by decide)), gd_k (hLY.k 5 23 4001 rfl), hLY.l 5 23 4001 rfl (by decide), show (0 : Int32) = nI 0 from rfl, ck_n (by decide) (by decide)]
          rw [show (nI 0).toNatClampNeg = 0 from rfl, q2]
        rw [gd_k hLY.k9, nn_s (hLY1.r0 0 1 (by decide)), gd_k (hLY.k 1 7 0 rfl), hv, bs]
        dsimp only
        rw [nn_s (hLY1.r0 0 1 (by decide)), gd_k (hLY.k 1 7 0 rfl)]
        unfold fC_X6_empty
        rw [gd_k (hLY.k 1 7 0 rfl), bs, if_neg (show ¬ (1 : Int32) = 0 by decide)]
        by_cases w0 : v1 = 0
        · obtain ⟨a0, x1, x2, x3, d0, -, -, -, dd⟩ := hSD
          obtain ⟨r, f1, f2⟩ := nm_ok (K := K) (M := wI M1 (z + 1) 5 0) (a := a0) N n1 (by omega) d0.2.2.2.1 d0.2.2.2.2.1 d0.2.2.2.2.2 rfl (by show 24 * b + nd ≤ 48; omega) (by decide) (fun d hd => (dd d hd).1) (mL S1 6 0)
          rw [if_pos w0, if_pos w0, nn_s s3, gd_k s5, nn_s s3, gd_k s5, nn_s d0.1, s9, f1, f2]
          exact fin rfl
        · rw [if_neg w0, if_neg w0]
          by_cases w1 : v1 = 1
          · obtain ⟨x4, x5, x6, d4, -, -, dd, -⟩ := hSU
            obtain ⟨r, f1, f2⟩ := nm_ok (K := K) (M := wI M1 (z + 1) 5 0) (a := x4) N n2 (by omega) d4.2.2.2.1 d4.2.2.2.2.1 d4.2.2.2.2.2 rfl (by show 24 * b + nu ≤ 48; omega) (by decide) (fun d hd => (dd d hd).1) (mL S1 6 0)
            rw [if_pos w1, if_pos w1, nn_s s3, gd_k s5, nn_s s3, gd_k s5, nn_s d4.1, s11, f1, f2]
            exact fin rfl
          · rw [if_neg w1, if_neg w1]
            by_cases w2 : v1 = 2
            · obtain ⟨x7, x8, d7, -, dd⟩ := hSM
              obtain ⟨r, f1, f2⟩ := nm_ok (K := K) (M := wI M1 (z + 1) 5 0) (a := x7) N n3 (by omega) d7.2.2.2.1 d7.2.2.2.2.1 d7.2.2.2.2.2 rfl (by show 20 * b + nm ≤ 40; omega) (by decide) (fun d hd => dd d hd) (mL S1 6 0)
              rw [if_pos w2, if_pos w2, nn_s s3, gd_k s5, nn_s s3, gd_k s5, nn_s d7.1, s13, f1, f2]
              exact fin rfl
            · rw [if_neg w2, if_neg w2]
              exact fin rfl
    · have ns : ¬ mA S1 4 0 = 1 ∧ ¬ cI M1 (z + 3) 0 = 2 := by
        rcases q with ⟨q1, q2, -⟩ | ⟨q1, c, q2, q3, -, q4, -⟩ | ⟨q1, q2⟩
        · rw [q1, q2]; decide
        · rw [q1, q4]
          exact ⟨by decide, fun q => by have := (nI_eq (b := 2) (by omega) (by decide)).mp q; omega⟩
        · rw [q1, q2]; decide
      rw [if_neg ns.1, if_neg ns.2]
      exact fin rfl
  · refine none1 ?_ ?_
    · rw [cls, if_neg (show ¬ nI (t + 1) = 2 from fun q => by have := (nI_eq (b := 2) (by omega) (by decide)).mp q; omega)]
    · rw [ref]
      by_cases t0 : t = 0
      · subst t0
        rw [k6, if_neg (by decide)]
      · by_cases w : mA S1 4 0 = 1
        · obtain ⟨p0, p1, p2⟩ := k11 1 (by omega)
          have ns : ¬ mA S1 4 1 = 0 := by
            rcases p2 with ⟨q1, -⟩ | ⟨q1, -⟩ | ⟨q1, -⟩ | ⟨q1, -⟩ <;> rw [q1] <;> decide
          rw [if_pos w, if_neg ns]
        · rw [if_neg w]
end NAMED
