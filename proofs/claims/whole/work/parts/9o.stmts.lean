/-! every statement and BLOCK -/
section STMTS
variable {N z b bn sm size t nd nu nm iu : Nat} {ex : Nat → Nat → Prop} {K0 K : Ka} {M M' : Cm} {S S' : Ms} {mk : List Mk} {j : Jt} {rc cc a v rv dp w h kc kr lv : Nat} {tl : List Nat}
/-- no statement begins so -/
theorem s_none (hP : PS z b bn sm size t nd nu nm iu ex K0 K M S mk (0, tl, 0) rc cc a v 0 w) (h2 : cI M (z + 3) a ≠ 2) (h14 : cI M (z + 3) a ≠ nI 142) (h15 : cI M (z + 3) a ≠ nI 143) (h16 : cI M (z + 3) a ≠ nI 144) (h17 : cI M (z + 3) a ≠ nI 145) (h18 : cI M (z + 3) a ≠ nI 146) (h20 : cI M (z + 3) a ≠ nI 148) (h21 : cI M (z + 3) a ≠ nI 149) (hN : 4010 < N) (s0 : Int32) (G : Nat → Nat → Int32 → Int32 → Ka → Cm → Option ((Ka × Cm) ⊕ (Ka × Cm))) :
    FB z b bn K0 M S (8010 + 3 * (kr + 3)) (bT_X3_readStatement_7 N G (z + 7) (nI w) s0 K M) ((gP N (kr + 2) 3 S).bind fun o133 => (fM_takeSign N 59 o133).bind fun o139 => some o139) := by
  have hroom := hP.room
  have r14 : fM_hasWord N 14 S = some (0, S) := hP.nW N (c := 14) (by decide) h14
  have r15 : fM_hasWord N 15 S = some (0, S) := hP.nW N (c := 15) (by decide) h15
  have r16 : fM_hasWord N 16 S = some (0, S) := hP.nW N (c := 16) (by decide) h16
  have r17 : fM_hasWord N 17 S = some (0, S) := hP.nW N (c := 17) (by decide) h17
  obtain ⟨f, f1, f2, f3⟩ := rf_nI hP.2.2.1 N (w := 1) (by omega) (by omega)
  have f2' : fT_X3_refuse N (z + 7) 1 K M = some (.inr (K, wI M (z + 7) 5 (nI f))) := f2
  have f3' : fM_wrong N 1 S = some (pF S 8 (nI f)) := f3
  have hn : fM_isName N S = some (0, S) := by
    rcases k_name hP.2.2.1 N (by omega) with q | q
    · exact absurd q.1 h2
    · exact q.2
  refine hP.fb f1 ?_ (S' := pF S 8 (nI f)) ?_ ((hP.dds f1).le (by omega))
  · unfold bT_X3_readStatement_7
    rw [gd_k hP.k7, hP.kn, if_neg h2, if_neg (show ¬ cI M (z + 3) a = 142 from h14), if_neg (show ¬ cI M (z + 3) a = 143 from h15), if_neg (show ¬ cI M (z + 3) a = 144 from h16), if_neg (show ¬ cI M (z + 3) a = 145 from h17), if_neg (show ¬ cI M (z + 3) a = 146 from h18), if_neg (show ¬ cI M (z + 3) a = 148 from h20), if_neg (show ¬ cI M (z + 3) a = 149 from h21), f2', tb_r]
  · rw [uP_3]
    unfold fM_plain
    rw [r14, bs]; dsimp only
    rw [if_pos rfl, r15, bs]; dsimp only
    rw [if_pos rfl, r16, bs]; dsimp only
    rw [if_pos rfl, r17, bs]; dsimp only
    rw [if_pos rfl, uP_4]
    unfold fM_set bM_plain_145
    rw [hn, bs]; dsimp only
    rw [if_pos rfl, f3', bs, bs, bs, d_tS (hP.dds f1).1, bs]
theorem st_ok (hw : w ≤ 10) (hN : 4010 < N) (hkr : kr ≤ 130) (hkr4 : 4 ≤ kr) (hE : ∀ kc' kr', kc ≤ kc' → kr ≤ kr' → kr' ≤ 133 → HLx N z b bn sm size t nd nu nm iu ex K0 K 0 w kc' kr') (hB : ∀ kr', kr + 1 ≤ kr' → kr' ≤ 133 → HBx N z b bn sm size t nd nu nm iu ex K0 K w kc kr') : HSx N z b bn sm size t nd nu nm iu ex K0 K w (kc + 2) (kr + 3) := by
  intro M S mk tl r rc cc a v hP hr hlen hT
  rw [uB_1, uP_1]
  by_cases k20 : cI M (z + 3) a = nI 148
  · exact s_while hP hr hT hlen hw k20 hN (by omega) (by omega) (hE kc (kr + 2) (Nat.le_refl _) (by omega) (by omega)) (hB (kr + 2) (by omega) (by omega))
  obtain ⟨h1, f1⟩ := hP.em (x := (1, 0, 0)) (ρ := 90) (by decide) (by decide) (by decide) (EMC.st hr (by decide) hT.1 (hT.le (by omega)))
  have h1' : PS z b bn sm size t nd nu nm iu ex K0 K (emC M sm cc (wd 1 0 0)) (emS S (10000 * bn + rc) rc 1 0 0) mk (0, tl, 0) (rc + 1) (cc + 1) a v 0 w := h1.drop (by show (1 : Nat) < 28; decide)
  have f1' : FR z b sm K0 M (emC M sm cc (wd 1 0 0)) S (emS S (10000 * bn + rc) rc 1 0 0) := f1
  have cls : fT_X3_readStatement N (gB N (kc + 1)) (z + 7) (nI w) K M = bT_X3_readStatement_7 N (gB N (kc + 1)) (z + 7) (nI w) (nI cc) K (emC M sm cc (wd 1 0 0)) := by
    unfold fT_X3_readStatement
    rw [gd_k hP.k7, hP.wC N, ta_l]
  rw [cls]
  have ek : cI (emC M sm cc (wd 1 0 0)) (z + 3) a = cI M (z + 3) a := by rw [emC_I (by have := hP.hz; omega)]
  refine EOk.fr (a := a) ?_ f1' (Nat.le_refl _)
  have up : ∀ {n n' : Nat} {c o}, n ≤ n' → EOk z b bn sm size t nd nu nm iu ex K0 K (emC M sm cc (wd 1 0 0)) (emS S (10000 * bn + rc) rc 1 0 0) mk 0 tl a (v + 1) 0 w (7 * (10 - w) + 7) n c o → EOk z b bn sm size t nd nu nm iu ex K0 K (emC M sm cc (wd 1 0 0)) (emS S (10000 * bn + rc) rc 1 0 0) mk 0 tl a (v + 1) 0 w (7 * (10 - w) + 7) n' c o := fun hn q => q.elim Or.inl (fun q => Or.inr (q.le hn))
  by_cases k18 : cI M (z + 3) a = nI 146
  · have r20 : fM_hasWord N 20 S = some (0, S) := hP.nW N (c := 20) (by decide) k20
    have r18 : fM_hasWord N 18 (emS S (10000 * bn + rc) rc 1 0 0) = some (1, pF (emS S (10000 * bn + rc) rc 1 0 0) 7 (nI (a + 1))) := (h1'.yW N (c := 18) (by decide) (ek.trans k18)).2
    have ref : fM_statement N (gP N (kr + 2)) S = ((gP N (kr + 2) 2 (pF (emS S (10000 * bn + rc) rc 1 0 0) 7 (nI (a + 1)))).bind fun o72 => some o72) := by
      unfold fM_statement
      rw [r20, bs]; dsimp only
      rw [if_pos rfl, hP.wS N, bs]; dsimp only
      rw [r18, bs]; dsimp only
      rw [if_neg (by decide)]
      rfl
    rw [ref]
    exact up (by omega) (s_if h1' hT hlen hw (ek.trans k18) hN (by omega) (by omega) (hE kc (kr + 1) (Nat.le_refl _) (by omega) (by omega)) (hB (kr + 1) (by omega) (by omega)) _)
  by_cases k21 : cI M (z + 3) a = nI 149
  · have r20 : fM_hasWord N 20 S = some (0, S) := hP.nW N (c := 20) (by decide) k20
    have r18 : fM_hasWord N 18 (emS S (10000 * bn + rc) rc 1 0 0) = some (0, emS S (10000 * bn + rc) rc 1 0 0) := h1'.nW N (c := 18) (by decide) (by rw [ek]; exact k18)
    have r21 : fM_hasWord N 21 (emS S (10000 * bn + rc) rc 1 0 0) = some (1, pF (emS S (10000 * bn + rc) rc 1 0 0) 7 (nI (a + 1))) := (h1'.yW N (c := 21) (by decide) (ek.trans k21)).2
    have ref : fM_statement N (gP N (kr + 2)) S = ((fM_emit N 12 0 0 (pF (emS S (10000 * bn + rc) rc 1 0 0) 7 (nI (a + 1)))).bind fun o92 => (gP N (kr + 2) 0 o92.2).bind fun o97 => (fM_emit N 13 0 0 o97).bind fun o105 => (fM_here N o92.1 o105.2).bind fun o111 => (fM_takeWord N 8 o111).bind fun o117 => (gP N (kr + 2) 0 o117).bind fun o121 => (fM_here N o105.1 o121).bind fun o126 => some o126) := by
      unfold fM_statement
      rw [r20, bs]; dsimp only
      rw [if_pos rfl, hP.wS N, bs]; dsimp only
      rw [r18, bs]; dsimp only
      rw [if_pos rfl, r21, bs]; dsimp only
      rw [if_neg (by decide)]
      rfl
    rw [ref]
    exact up (by omega) (s_try h1' hT hlen hw (ek.trans k21) hN (by omega) (by omega) (hB (kr + 2) (by omega) (by omega)) _)
  rw [m_plain hP N (gP N (kr + 2)) k20 k18 k21]
  by_cases k2 : cI M (z + 3) a = 2
  · exact up (by omega) (s_set h1' hT hw (ek.trans k2) hN (by omega) hkr4 (hE (kc + 1) kr (by omega) (Nat.le_refl _) (by omega)) _)
  by_cases k14 : cI M (z + 3) a = nI 142
  · exact up (by omega) (s_touch (kr := kr + 1) h1' hT hw (ek.trans k14) hN (by omega) _)
  by_cases k15 : cI M (z + 3) a = nI 143
  · exact up (by omega) (s_order (kr := kr + 1) h1' hT hw (ek.trans k15) hN (by omega) (by omega) (hE (kc + 1) (kr + 1) (by omega) (by omega) (by omega)) _)
  by_cases k16 : cI M (z + 3) a = nI 144
  · exact up (by omega) (s_check (kr := kr + 1) h1' hT hw (ek.trans k16) hN (by omega) (hE (kc + 1) (kr + 1) (by omega) (by omega) (by omega)) _)
  by_cases k17 : cI M (z + 3) a = nI 145
  · exact up (by omega) (s_fail (kr := kr + 1) h1' hT hw (ek.trans k17) hN (by omega) _)
  · exact Or.inr (s_none (kr := kr) h1' (by rw [ek]; exact k2) (by rw [ek]; exact k14) (by rw [ek]; exact k15) (by rw [ek]; exact k16) (by rw [ek]; exact k17) (by rw [ek]; exact k18) (by rw [ek]; exact k20) (by rw [ek]; exact k21) hN _ _)
theorem sb_ok (hN : 4010 < N) : ∀ q w, w + q = 10 → (∀ kc kr, 5 * q + 8 ≤ kc → 5 * q + 8 ≤ kr → kr ≤ 134 → HBx N z b bn sm size t nd nu nm iu ex K0 K w kc kr) ∧ ∀ kc kr, 5 * q + 10 ≤ kc → 5 * q + 10 ≤ kr → kr ≤ 133 → HSx N z b bn sm size t nd nu nm iu ex K0 K w kc kr := by
  intro q
  induction q with
  | zero =>
    intro w hw
    have hb : ∀ kc kr, 5 * 0 + 8 ≤ kc → 5 * 0 + 8 ≤ kr → kr ≤ 134 → HBx N z b bn sm size t nd nu nm iu ex K0 K w kc kr := fun kc kr h1 h2 h3 => by
      obtain ⟨kc, rfl⟩ : ∃ k, kc = k + 1 := ⟨kc - 1, by omega⟩
      obtain ⟨kr, rfl⟩ : ∃ k, kr = k + 1 := ⟨kr - 1, by omega⟩
      exact blk_ok (by omega) hN (by omega) (fun q => by omega)
    refine ⟨hb, fun kc kr h1 h2 h3 => ?_⟩
    obtain ⟨kc, rfl⟩ : ∃ k, kc = k + 2 := ⟨kc - 2, by omega⟩
    obtain ⟨kr, rfl⟩ : ∃ k, kr = k + 3 := ⟨kr - 3, by omega⟩
    exact st_ok (by omega) hN (by omega) (by omega) (fun kc' kr' g1 g2 g3 => (ex_ok hN 0 w hw kc' kr' (by omega) (by omega) (by omega)).1) (fun kr' g1 g2 => hb kc kr' (by omega) (by omega) (by omega))
  | succ q ih =>
    intro w hw
    have hb : ∀ kc kr, 5 * (q + 1) + 8 ≤ kc → 5 * (q + 1) + 8 ≤ kr → kr ≤ 134 → HBx N z b bn sm size t nd nu nm iu ex K0 K w kc kr := fun kc kr h1 h2 h3 => by
      obtain ⟨kc, rfl⟩ : ∃ k, kc = k + 1 := ⟨kc - 1, by omega⟩
      obtain ⟨kr, rfl⟩ : ∃ k, kr = k + 1 := ⟨kr - 1, by omega⟩
      exact blk_ok (by omega) hN (by omega) (fun _ => (ih (w + 1) (by omega)).2 kc kr (by omega) (by omega) (by omega))
    refine ⟨hb, fun kc kr h1 h2 h3 => ?_⟩
    obtain ⟨kc, rfl⟩ : ∃ k, kc = k + 2 := ⟨kc - 2, by omega⟩
    obtain ⟨kr, rfl⟩ : ∃ k, kr = k + 3 := ⟨kr - 3, by omega⟩
    exact st_ok (by omega) hN (by omega) (by omega) (fun kc' kr' g1 g2 g3 => (ex_ok hN (q + 1) w hw kc' kr' (by omega) (by omega) (by omega)).1) (fun kr' g1 g2 => hb kc kr' (by omega) (by omega) (by omega))
end STMTS
