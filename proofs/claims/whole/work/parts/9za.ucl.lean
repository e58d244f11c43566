/-! a unit's items are read: its closing and end by both -/
section UCL
variable {N z b bn sm size t nd nu nm iu u tu i : Nat} {ex ex' : Nat → Nat → Prop} {K0 K : Ka} {M M' M'' : Cm} {S S' S'' : Ms} {mk mk' : List Mk} {j : Jt} {rc cc a v rv dp n f : Nat}
theorem UEo.fu {v' a0 : Nat} {c : Option ((Ka × Cm) ⊕ (Ka × Cm))} {o : Option Ms} (q : UEo z b bn sm size t nd nu nm u tu K0 K M' S' mk' a v' c o) (hf : FU z b sm tu (24 * bn + u) K0 M M' S S') (hm : ∀ m, m ∈ mk → m ∈ mk') (hm2 : ∀ m, m ∈ mk' → m ∈ mk ∨ (∃ m2, m2 ∈ mk' ∧ m2.2.2.1.1 ≠ 99 ∧ m.1 ≤ m2.1) ∧ (m.2.2.1.1 = 99 ∨ m.2.2.1.1 < 28)) (hv : v ≤ v') (ha : a0 ≤ a) (h13 : (cI M' tu 13 = cI M tu 13 ∧ mA S' 33 (24 * bn + u) = mA S 33 (24 * bn + u)) ∨ ∃ r c, cI M' tu 13 = nI c ∧ mA S' 33 (24 * bn + u) = nI (10000 * bn + r) ∧ pmk r c ∈ mk') : UEo z b bn sm size t nd nu nm u tu K0 K M S mk a0 v c o := by
  rcases q with ⟨M1, S1, mk1, rc1, cc1, a1, q1, q2, q3, q4, q5, q6, q7, q77, q8⟩ | q
  · refine Or.inl ⟨M1, S1, mk1, rc1, cc1, a1, q1, q2, by omega, hf.tr q4, q5.less hv, q6, fun m h => q7 m (hm m h), fun m h => ?_, ?_⟩
    · rcases q77 m h with y | y
      · rcases hm2 m y with w | ⟨⟨m2, w1, w2, w3⟩, w4⟩
        · exact Or.inl w
        · obtain ⟨-, gg, pg, Jg, g1, g2, g3, g4, -⟩ := q5.2.2.2.2.1
          have := ((g4 m2 (q7 m2 w1)).1 w2).1
          exact Or.inr ⟨by omega, w4⟩
      · exact Or.inr y
    rcases q8 with ⟨x1, x2⟩ | x
    · rw [x1, x2]
      rcases h13 with y | ⟨r, c, y1, y2, y3⟩
      · exact Or.inl y
      · exact Or.inr ⟨r, c, y1, y2, q7 _ y3⟩
    · exact Or.inr x
  · exact Or.inr (q.fu hf)
theorem ub_cl {r : Nat} (hP : PS z b bn sm size t nd nu nm (u + 1) ex K0 K M S mk (0, [], r) rc cc a (v + 1) 0 0) (hr : r ≤ 90) (hu : u < nu) (ht : cR M (sm + 6) u = some tu) (hk : cI M (z + 3) a = nI 125 ∨ (cI M (z + 3) a = nI 139 ∧ mA S 20 (24 * bn + u) ≠ 0)) (hex : ∀ u' w, u' < 24 → w < 24 → (ex u' w ↔ u' = u ∧ LNx S (24 * bn + u) w)) (hN : 4010 < N) :
    UEo z b bn sm size t nd nu nm u tu K0 K M S mk a (v + 2) (bT_X3_readUnit_163 N (z + 7) tu K M) (bM_toldUnit_306 N (nI (24 * bn + u)) S) := by
  have ht4 := hP.t4
  have hz := hP.hz
  have hroom := hP.room
  have n24 : nu ≤ 24 := hP.2.1.1.2.2.2.2.2.1
  have b2 : bn < 2 := by have := hP.1.2.1; omega
  obtain ⟨p1, p2, fl, p3⟩ := id hP.2.1.2.2.1
  obtain ⟨⟨tu', hA, hB, -⟩, -⟩ := p3 u hu
  have et : tu' = tu := by have := hA.1; rw [ht] at this; cases this; rfl
  subst et
  have htu := hA.2.1
  have tn : tu' ≠ z + 7 := by omega
  have hd := hA.hd
  have u24 : u < 24 := by omega
  have ck48 : ∀ {ρ : Type} (q : Option ρ), ck (nI (24 * bn + u)) 48 q = q := fun q => ck_n (by omega) (by decide)
  obtain ⟨h1, f1⟩ := hP.fin hr
  have ek : cI (emC M sm cc (wd 20 0 0)) (z + 3) a = cI M (z + 3) a := by rw [emC_I (by omega)]
  have cls : bT_X3_readUnit_163 N (z + 7) tu' K M = bT_X3_readUnit_171 N (z + 7) tu' (nI cc) K (emC M sm cc (wd 20 0 0)) := by
    unfold bT_X3_readUnit_163
    rw [gd_k hP.k7, hP.wC N, ta_l]
  have ref : bM_toldUnit_306 N (nI (24 * bn + u)) S = (if (mA S 20 (24 * bn + u)) = 0 then ((bM_toldUnit_359 N) (nI (24 * bn + u)) (emS S (10000 * bn + rc) rc 0 0 0)) else ((fM_hasWord N 11 (emS S (10000 * bn + rc) rc 0 0 0)).bind fun o326 => if o326.1 = 0 then ((bM_toldUnit_359 N) (nI (24 * bn + u)) o326.2) else (((fG_block N (pA o326.2 33 (24 * bn + u) ((mF o326.2 42) + (mF o326.2 38)))).bind fun o348 => (fM_emit N 0 0 0 o348).bind fun o355 => (bM_toldUnit_359 N) (nI (24 * bn + u)) o355.2)))) := by
    unfold bM_toldUnit_306
    rw [hP.wS N, bs]
    simp only [ck48]
    rw [nI_clamp (show 24 * bn + u < 2 ^ 31 by omega), emS_o (S := S) (k := 20) (by decide)]
  rw [cls, ref]
  have hex1 : ∀ u' w, u' < 24 → w < 24 → (ex u' w ↔ u' = u ∧ LNx (emS S (10000 * bn + rc) rc 0 0 0) (24 * bn + u) w) := fun u' w g1 g2 => by
    rw [LNx.ag (fun k k1 k2 => emS_o (S := S) (r := rc) (by omega))]
    exact hex u' w g1 g2
  have fu1 : FU z b sm tu' (24 * bn + u) K0 M (emC M sm cc (wd 20 0 0)) S (emS S (10000 * bn + rc) rc 0 0 0) := f1.fu tn (by omega)
  have st1 : cI (emC M sm cc (wd 20 0 0)) tu' 13 = cI M tu' 13 ∧ mA (emS S (10000 * bn + rc) rc 0 0 0) 33 (24 * bn + u) = mA S 33 (24 * bn + u) := ⟨by rw [emC_I (by omega)], by rw [emS_o (S := S) (by decide)]⟩
  have ht1 : cR (emC M sm cc (wd 20 0 0)) (sm + 6) u = some tu' := ht
  have hA1 : cI (emC M sm cc (wd 20 0 0)) tu' 0 = mA S 20 (24 * bn + u) := by rw [emC_I (by omega)]; exact hA.2.2.2.2.1
  have hd1 : HD (emS S (10000 * bn + rc) rc 0 0 0) (24 * bn + u) u := hd.t5 (fun k k1 k2 => emS_o (S := S) (r := rc) (by omega))
  generalize emC M sm cc (wd 20 0 0) = M1 at *
  generalize emS S (10000 * bn + rc) rc 0 0 0 = S1 at *
  unfold bT_X3_readUnit_171
  rw [gd_k hP.k7, h1.kn]
  rcases hk with k125 | ⟨k139, m20⟩
  · have k1 : cI M1 (z + 3) a = nI 125 := ek.trans k125
    have r11 : fM_hasWord N 11 S1 = some (0, S1) := h1.nW N (c := 11) (by decide) (by rw [k1]; decide)
    have er : (if (mA S 20 (24 * bn + u)) = 0 then ((bM_toldUnit_359 N) (nI (24 * bn + u)) S1) else ((fM_hasWord N 11 S1).bind fun o326 => if o326.1 = 0 then ((bM_toldUnit_359 N) (nI (24 * bn + u)) o326.2) else (((fG_block N (pA o326.2 33 (24 * bn + u) ((mF o326.2 42) + (mF o326.2 38)))).bind fun o348 => (fM_emit N 0 0 0 o348).bind fun o355 => (bM_toldUnit_359 N) (nI (24 * bn + u)) o355.2)))) = bM_toldUnit_359 N (nI (24 * bn + u)) S1 := by
      by_cases y : mA S 20 (24 * bn + u) = 0
      · rw [if_pos y]
      · rw [if_neg y, r11, bs]
        dsimp only
        rw [if_pos rfl]
    rw [er, k1, if_neg (by decide)]
    exact (ue_tail (N := N) h1 (List.mem_cons_self ..) hu ht1 hex1 hN).fu fu1 (fun m h => List.mem_cons_of_mem _ h) (fun m h => (List.mem_cons.mp h).elim (fun y => Or.inr ⟨⟨m, h, by rw [y]; show (0 : Nat) ≠ 99; decide, Nat.le_refl _⟩, Or.inr (by rw [y]; show (0 : Nat) < 28; decide)⟩) Or.inl) (by omega) (Nat.le_refl _) (Or.inl st1)
  · have k1 : cI M1 (z + 3) a = nI 139 := ek.trans k139
    obtain ⟨hl, r11⟩ := h1.yW N (c := 11) (by decide) k1
    have r11' : fM_hasWord N 11 S1 = some (1, pF S1 7 (nI (a + 1))) := r11
    have h2 := (h1.tk (a' := a + 1) (by omega) (by omega)).less (v' := v + 1 + 1) (by omega)
    have e33 : mF (pF S1 7 (nI (a + 1))) 42 + mF (pF S1 7 (nI (a + 1))) 38 = nI (10000 * bn + (rc + 1)) := by
      rw [h2.2.1.2.2.2.1, h2.2.2.2.2.2.2.1, nI_add]
    have e13 : cI (mv z M1 (a + 1)) sm 13 = nI (cc + 1) := h2.2.2.2.1.2.2.2.2.2.2.2.1
    rw [k1, if_pos (by decide), gd_k hA.2.2.1, hA1, if_neg m20, h1.mvC N hl, bs, nn_s h2.r71, gd_k hP.ks, e13, if_neg m20, r11', bs]
    dsimp only
    rw [if_neg (by decide), e33]
    have h3 := (h2.obj (M' := wI (mv z M1 (a + 1)) tu' 13 (nI (cc + 1))) (S' := pA (pF S1 7 (nI (a + 1))) 33 (24 * bn + u) (nI (10000 * bn + (rc + 1)))) hu ht1 (by omega) (fun q h => cI_wI_ne _ _ _ h) (fun s h => by rw [cI_w, if_neg (by omega)]) rfl rfl rfl (fun k h _ => mA_Ane _ _ _ h) rfl (h2.2.2.2.2.2.1.q (cI_wI_ne _ _ _ (by omega)) (mA_Ane _ _ _ (by decide)))).pos
    have fu3 : FU z b sm tu' (24 * bn + u) K0 (mv z M1 (a + 1)) (wI (mv z M1 (a + 1)) tu' 13 (nI (cc + 1))) (pF S1 7 (nI (a + 1))) (pA (pF S1 7 (nI (a + 1))) 33 (24 * bn + u) (nI (10000 * bn + (rc + 1)))) := by
      have hsm := hP.1.2.2.2.1
      refine ⟨fun q _ _ _ h _ _ => cI_wI_ne _ _ _ h, fun s _ _ h => by rw [cI_w, if_neg (by omega)], fun _ _ _ => rfl, rfl, fun s _ _ => by rw [cI_wI_ne _ _ _ (by omega)], fun s _ => by rw [cI_wI_ne _ _ _ (by omega)], fun _ _ _ _ _ _ _ => rfl, fun k h _ _ _ _ => mA_Ane _ _ _ h, fun q h => by rw [mA_A, if_neg (fun y => h y.2)], fun _ _ => rfl, ⟨fun q q1 _ => ⟨cI_wI_ne _ _ _ (by omega), rfl⟩, fun _ _ _ _ => rfl⟩, AgO.pA (ob_n hP.1.1 hP.1.2.1 (w := 24) rfl (by decide) (by omega) (by omega)) _⟩
    have fu13 : FU z b sm tu' (24 * bn + u) K0 M (wI (mv z M1 (a + 1)) tu' 13 (nI (cc + 1))) S (pA (pF S1 7 (nI (a + 1))) 33 (24 * bn + u) (nI (10000 * bn + (rc + 1)))) := (fu1.tr ((FR.mv (a + 1) (nI (a + 1)) hz).fu tn (by omega))).tr fu3
    have m13 : cI (wI (mv z M1 (a + 1)) tu' 13 (nI (cc + 1))) tu' 13 = nI (cc + 1) := by rw [cI_w, if_pos ⟨rfl, rfl⟩]
    have s33 : mA (pA (pF S1 7 (nI (a + 1))) 33 (24 * bn + u) (nI (10000 * bn + (rc + 1)))) 33 (24 * bn + u) = nI (10000 * bn + (rc + 1)) := by rw [mA_A, if_pos ⟨rfl, rfl⟩]
    have ht3 : cR (wI (mv z M1 (a + 1)) tu' 13 (nI (cc + 1))) (sm + 6) u = some tu' := ht1
    have hd3 : HD (pA (pF S1 7 (nI (a + 1))) 33 (24 * bn + u) (nI (10000 * bn + (rc + 1)))) (24 * bn + u) u := hd1.t5 (fun k k1 k2 => by rw [mA_Ane _ _ _ (by omega)]; rfl)
    have hex3 : ∀ u' w, u' < 24 → w < 24 → (ex u' w ↔ u' = u ∧ LNx (pA (pF S1 7 (nI (a + 1))) 33 (24 * bn + u) (nI (10000 * bn + (rc + 1)))) (24 * bn + u) w) := fun u' w g1 g2 => by
      rw [LNx.ag (S := S1) (fun k k1 k2 => by rw [mA_Ane _ _ _ (by omega)]; rfl)]
      exact hex1 u' w g1 g2
    generalize wI (mv z M1 (a + 1)) tu' 13 (nI (cc + 1)) = M3 at *
    generalize pA (pF S1 7 (nI (a + 1))) 33 (24 * bn + u) (nI (10000 * bn + (rc + 1))) = S3 at *
    have hBk := (sb_ok (N := N) (z := z) (b := b) (bn := bn) (sm := sm) (size := size) (t := t) (nd := nd) (nu := nu) (nm := nm) (iu := u + 1) (ex := ex) (K0 := K0) (K := K) hN 10 0 rfl).1 150 120 (by omega) (by omega) (by omega)
    have eB : fGT_X3_readBlock N (z + 7) 0 K M3 = gB N 150 0 (z + 7) (nI 0) 0 K M3 := rfl
    have eP : fG_block N S3 = gP N 120 0 S3 := rfl
    rw [eB, eP]
    rcases (hBk M3 S3 _ [] 0 (rc + 1) (cc + 1) (a + 1) (v + 1) h3 (by omega) (fun _ => ⟨Nat.zero_le _, Nat.zero_le _, Or.inl rfl⟩)).1 with ⟨M4, S4, rc4, cc4, a4, r4, x1, x2, x3, x4, x5, x6⟩ | q
    · rw [x1, x2, tb_l, bs]
      dsimp only
      have x6' : PS z b bn sm size t nd nu nm (u + 1) ex K0 K M4 S4 (pmk (rc + 1) (cc + 1) :: emk (rc + 1) (cc + 1) :: mk) (0, [], r4) rc4 cc4 a4 (v + 3 + 1) 0 0 := x6
      obtain ⟨h5, f5⟩ := x6'.fin (by omega)
      unfold bT_X3_readUnit_215 bT_X3_readUnit_223
      rw [gd_k hP.k7, x6.wC N, ta_l, x6.wS N, bs]
      dsimp only
      have f35 := x5.tr f5
      have hex5 : ∀ u' w, u' < 24 → w < 24 → (ex u' w ↔ u' = u ∧ LNx (emS S4 (10000 * bn + rc4) rc4 0 0 0) (24 * bn + u) w) := fun u' w g1 g2 => by
        rw [LNx.ag (S := S3) (fun k k1 k2 => f35.2.2.2.2.2.2.1 k (by omega) (by omega) (by omega))]
        exact hex3 u' w g1 g2
      have mlt : ∀ m, m ∈ emk (rc4 + 1) (cc4 + 1) :: pmk (rc + 1) (cc + 1) :: emk (rc + 1) (cc + 1) :: mk → m ∈ mk ∨ (∃ m2, m2 ∈ emk (rc4 + 1) (cc4 + 1) :: pmk (rc + 1) (cc + 1) :: emk (rc + 1) (cc + 1) :: mk ∧ m2.2.2.1.1 ≠ 99 ∧ m.1 ≤ m2.1) ∧ (m.2.2.1.1 = 99 ∨ m.2.2.1.1 < 28) := fun m hm => by
        obtain ⟨-, gg, pg, Jg, g1, g2, g3, g4, -⟩ := x6'.2.2.2.2.1
        have hrc4 : rc + 1 ≤ rc4 := ((g4 (pmk (rc + 1) (cc + 1)) (List.mem_cons_self ..)).2.2 rfl).1
        have e0 : (emk (rc4 + 1) (cc4 + 1)).1 = rc4 := rfl
        have n9 : (emk (rc4 + 1) (cc4 + 1)).2.2.1.1 ≠ 99 := by show (0 : Nat) ≠ 99; decide
        rcases List.mem_cons.mp hm with y | y
        · exact Or.inr ⟨⟨_, List.mem_cons_self .., n9, by rw [y]; exact Nat.le_refl _⟩, Or.inr (by rw [y]; show (0 : Nat) < 28; decide)⟩
        · rcases List.mem_cons.mp y with y | y
          · exact Or.inr ⟨⟨_, List.mem_cons_self .., n9, by rw [y, e0]; exact hrc4⟩, Or.inl (by rw [y]; rfl)⟩
          · rcases List.mem_cons.mp y with y | y
            · exact Or.inr ⟨⟨_, List.mem_cons_self .., n9, by rw [y, e0]; show rc + 1 - 1 ≤ rc4; omega⟩, Or.inr (by rw [y]; show (0 : Nat) < 28; decide)⟩
            · exact Or.inl y
      refine (ue_tail (N := N) h5 (List.mem_cons_self ..) hu (by rw [f35.2.2.1]; exact ht3) hex5 hN).fu (fu13.tr (f35.fu tn (by omega))) (fun m h => List.mem_cons_of_mem _ (List.mem_cons_of_mem _ (List.mem_cons_of_mem _ h))) mlt (by omega) (by omega) (Or.inr ⟨rc + 1, cc + 1, ?_, ?_, List.mem_cons_of_mem _ (List.mem_cons_self ..)⟩)
      · rw [f35.1 tu' tn (by omega) (by omega)]; exact m13
      · rw [f35.2.2.2.2.2.2.1 33 (by decide) (by decide) (by decide)]; exact s33
    · right
      refine ((q.go (n' := 9100) (fun f S9 d => ?_))).fu fu13
      obtain ⟨r, S6, g1, g2, g3⟩ := d.em hP.1.1 hP.1.2.1 (by omega) N 0 0 0
      obtain ⟨S7, w1, w2⟩ := d359 (N := N) hP.1.1 hP.1.2.1 g3 (by omega) u24 hd3
      exact ⟨S7, by rw [g2, bs]; exact w1, w2.le (by omega)⟩
end UCL
