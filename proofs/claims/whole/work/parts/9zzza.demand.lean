/-! demand -/
def prC (z st : Nat) (v : Int32) (M : Cm) : Cm := wI (wI (wI (wI (wI (wI (wI (wI (wR M (z + 35) 4 (some st)) (z + 35) 6 0) (z + 35) 7 0) (z + 35) 10 v) (z + 35) 12 0) (z + 35) 14 0) (z + 35) 15 0) (z + 35) 16 0) (z + 35) 13 1
/-- HALF looks and orders so far, j calls since the start -/
def HOB (B : Nat) (S : Ms) : Prop := ∃ nh no, mF S 79 = nI nh ∧ mF S 84 = nI no ∧ nh ≤ B ∧ no ≤ B
section DEMAND
variable {z b st nd nu nm lim nh no c B0 N : Nat} {clo who : Int32} {K : Ka} {M M' M2 Mf : Cm} {S S' S2 Ss : Ms} {mk : List Mk} {rc cc : Nat} {g : Nat → Nat × Nat × Nat} {pi : Nat → Nat} {J : Nat → Jt} {cl : Nat → List Nat}
theorem prC_35 (z st : Nat) (v : Int32) (M : Cm) (k : Nat) : cI (prC z st v M) (z + 35) k = if k = 13 then 1 else if k = 16 then 0 else if k = 15 then 0 else if k = 14 then 0 else if k = 12 then 0 else if k = 10 then v else if k = 7 then 0 else if k = 6 then 0 else cI M (z + 35) k := by
  unfold prC
  rw [cI_w, cI_w, cI_w, cI_w, cI_w, cI_w, cI_w, cI_w, cI_R]
  simp
theorem prC_mch (z st : Nat) (v : Int32) (M : Cm) (S : Ms) : MCH z M (prC z st v M) S S := by
  unfold prC
  exact (((((((((MCH.rf z M S).wR (by decide)).wI (Or.inl ⟨rfl, by decide⟩)).wI (Or.inl ⟨rfl, by decide⟩)).wI (Or.inl ⟨rfl, by decide⟩)).wI (Or.inl ⟨rfl, by decide⟩)).wI (Or.inl ⟨rfl, by decide⟩)).wI (Or.inl ⟨rfl, by decide⟩)).wI (Or.inl ⟨rfl, by decide⟩)).wI (Or.inl ⟨rfl, by decide⟩)
theorem c_run (hk : kd K (z + 35) = 3) (N : Nat) (who x v : Int32) : fC_X2_run N K (z + 35) st who x v M = (fC_X2_enter N K (z + 35) who x (prC z st v M)).bind fun o => RN N K z st 0 o := by
  unfold fC_X2_run
  rw [gd_k hk, gd_t (show is01 0 = true from rfl), gd_t (show is01 1 = true from rfl)]
  rfl
theorem cdx_of (h : RelP z K M S b st nd nu nm) (rv : CGE st b nd nu nm K M S ∧ (z + 174 ≤ st ∨ (nd = 0 ∧ nu = 0 ∧ nm = 0))) (hz : nu ≠ 0 ∨ nm ≠ 0) : ∃ mk rc cc g pi J cl, CDX z b st nd nu K M S mk rc cc g pi J cl ∧ DMD M S b st nm mk ∧ (cR M st 8 = some (st + 9) ∧ kd K (st + 9) = 22 ∧ nm ≤ le K (st + 9) ∧ le K (st + 9) < 2 ^ 31) := by
  obtain ⟨cg, zz⟩ := rv
  have nz : ¬ (nd = 0 ∧ nu = 0 ∧ nm = 0) := fun w => by omega
  have hst := zz.resolve_right nz
  obtain ⟨mk, rc, cc, ⟨⟨a1, a2, a3⟩, b1, c1, c2, c3, c4⟩, pu, dm, ⟨cl, un⟩, g, pi, J, d1, d2, d3, d4, d5⟩ := cg.resolve_left nz
  obtain ⟨g1, g2, -, -, g5, g6, g7, -⟩ := h.2.2.2.2.2.2.2.2.2.2.2.2.1
  exact ⟨mk, rc, cc, g, pi, J, cl, ⟨⟨hst, g7, g6, a1, a2, g5, g1, g2, h.1⟩, b1, pu, un, d1, d2, d3, d4, d5, h.2.2.2.2.2.2.2.2.2.2.2.2.2.1⟩, dm, c1, c2, c3, c4⟩
theorem rpb_of (h : RelP z K M S b st nd nu nm) : RPB z nu M S := ⟨h.2.1.1, h.2.2.2.2.2.2.2.2.2.1⟩
theorem c_can (h : RelP z K M S b st nd nu nm) (N : Nat) (v1 v2 : Int32) : ∃ r, fC_X8_canDemand N K z v1 v2 M = some (r, M) ∧ fM_isDemand N v1 v2 S = some (r, S) ∧ (r = 0 ∨ (r = 1 ∧ ∃ d n, d < nm ∧ v1 = nI d ∧ 1 ≤ n ∧ n ≤ 5000 ∧ v2 = nI n)) := by
  obtain ⟨g1, g2, g3, g4, g5, g6, g7, g8, -, -, -, -, q12, q35⟩ := h.2.2.2.2.2.2.2.2.2.2.2.2.1
  unfold fC_X8_canDemand bC_X8_canDemand_31 bC_X8_canDemand_32 fM_isDemand bM_isDemand_33 bM_isDemand_34
  rw [g2, gd_t (show is01 0 = true from rfl), gd_t (show is01 1 = true from rfl), gd_t (show is01 0 = true from rfl), gd_t (show is01 1 = true from rfl), gd_k h.1.k9, nn_s g3, gd_k g5, q12, ck_n (show b < 2 by omega) (by decide), nI_clamp (show b < 2 ^ 31 by omega), q35]
  by_cases c1 : v1 < 0
  · rw [if_pos c1, if_pos c1]; exact ⟨0, rfl, rfl, Or.inl rfl⟩
  · rw [if_neg c1, if_neg c1]
    by_cases c2 : nI nm ≤ v1
    · rw [if_pos c2, if_pos c2]; exact ⟨0, rfl, rfl, Or.inl rfl⟩
    · rw [if_neg c2, if_neg c2]
      by_cases c3 : v2 < 1
      · rw [if_pos c3, if_pos c3]; exact ⟨0, rfl, rfl, Or.inl rfl⟩
      · rw [if_neg c3, if_neg c3]
        by_cases c4 : (5000 : Int32) < v2
        · rw [if_pos c4, if_pos c4]; exact ⟨0, rfl, rfl, Or.inl rfl⟩
        · rw [if_neg c4, if_neg c4]
          obtain ⟨d, d1, rfl⟩ := nI_of c1
          have p2 : ¬ v2 < 0 := fun w => c3 (Int32.lt_of_lt_of_le w (by decide))
          obtain ⟨n, n1, rfl⟩ := nI_of p2
          refine ⟨1, rfl, rfl, Or.inr ⟨rfl, d, n, ?_, rfl, ?_, ?_, rfl⟩⟩
          · by_cases w : d < nm
            · exact w
            · exact absurd (nI_le (by omega) d1) c2
          · by_cases w : 1 ≤ n
            · exact w
            · exact absurd (show nI n < (1 : Int32) from nI_lt (b := 1) (by omega) (by decide)) c3
          · by_cases w : n ≤ 5000
            · exact w
            · exact absurd (show (5000 : Int32) < nI n from nI_lt (a := 5000) (by omega) n1) c4
/-- a demand run by both -/
theorem run_dem (h : RelP z K M S b st nd nu nm) (rv : RV z b st nd nu nm K M S) (hob : HOB B0 S) (hB : B0 + 1000000 ≤ 1000000000) (hN : 1000000 < N) (h64 : mF S 64 = 0) {d n : Nat} (hd : d < nm) (n1 : 1 ≤ n) (n5 : n ≤ 5000) :
    ∃ Mf e S', fC_X2_runDemand N K (z + 35) st (nI d) (nI n) M = some Mf ∧ fM_runs N (nI d) (nI n) S = some (e, S') ∧ FINr z b nd nu B0 0 M S Mf e S' := by
  obtain ⟨mk, rc, cc, g, pi, J, cl, X, dm, s1, s2, s3, s4⟩ := cdx_of h rv.1 (Or.inr (by omega))
  obtain ⟨nh, no, o1, o2, o3, o4, dd⟩ := DD.start h rv.2.1 rv.2.2.1
  obtain ⟨nh', no', p1, p2, p3, p4⟩ := hob
  have e1 : nh = nh' := (nI_eq (by omega) (by omega)).mp (o1.symm.trans p1)
  have e2 : no = no' := (nI_eq (by omega) (by omega)).mp (o2.symm.trans p2)
  obtain ⟨b2, rc8⟩ := X.b2
  obtain ⟨g1, g2, -, -, g5, g6, g7, g8, -⟩ := h.2.2.2.2.2.2.2.2.2.2.2.2.1
  obtain ⟨r, c, d1, d2, d3⟩ := dm d hd
  have hst := X.1.1
  have k35 := h.1.k 35 3 0 rfl
  have mch0 : MCH z M (prC z st (nI n) (wI (wI M (z + 35) 8 (nI d)) (z + 35) 9 0)) S (pF (pF (pF (pF (pF S 68 (nI n)) 67 0) 95 0) 97 0) 92 (nI d)) :=
    ((((((((MCH.rf z M S).wI (a := z + 35) (k := 8) (v := nI d) (Or.inl ⟨rfl, by decide⟩)).wI (a := z + 35) (k := 9) (v := 0) (Or.inl ⟨rfl, by decide⟩)).tr (prC_mch z st (nI n) _ S)).pF (k := 68) (v := nI n) (by omega)).pF (k := 67) (v := 0) (by omega)).pF (k := 95) (v := 0) (by omega)).pF (k := 97) (v := 0) (by omega)).pF (k := 92) (v := nI d) (by omega)
  have P := prC_35 z st (nI n) (wI (wI M (z + 35) 8 (nI d)) (z + 35) 9 0)
  have rdy : RDY z st n 0 M (prC z st (nI n) (wI (wI M (z + 35) 8 (nI d)) (z + 35) 9 0)) S (pF (pF (pF (pF (pF S 68 (nI n)) 67 0) 95 0) 97 0) 92 (nI d)) := by
    refine ⟨mch0, ⟨?_, ?_, ?_, ?_, ?_, ?_, ?_, ?_⟩, n5, ?_, ?_, ?_, ?_, ?_, ?_⟩
    · unfold prC
      rw [cR_I, cR_I, cR_I, cR_I, cR_I, cR_I, cR_I, cR_I, cR_w, if_pos ⟨rfl, rfl⟩]
    · rw [P]; rfl
    · rw [P]; rfl
    · rw [P]; rfl
    · rw [P]; rfl
    · rw [P]; rfl
    · rw [P]; rfl
    · rw [P, if_neg (by decide), if_neg (by decide), if_neg (by decide), if_neg (by decide), if_neg (by decide), if_neg (by decide), if_neg (by decide), if_neg (by decide), cI_w, if_pos ⟨rfl, rfl⟩]
    · rfl
    · rfl
    · rw [P]; rfl
    · rw [P]; rfl
    · rfl
    · rfl
  have c8 : cI (prC z st (nI n) (wI (wI M (z + 35) 8 (nI d)) (z + 35) 9 0)) (z + 35) 8 = mF (pF (pF (pF (pF (pF S 68 (nI n)) 67 0) 95 0) 97 0) 92 (nI d)) 92 := by
    rw [P, if_neg (by decide), if_neg (by decide), if_neg (by decide), if_neg (by decide), if_neg (by decide), if_neg (by decide), if_neg (by decide), if_neg (by decide), cI_w, if_neg (by omega), cI_w, if_pos ⟨rfl, rfl⟩, mF_F, if_pos rfl]
  obtain ⟨Mf, e, S', w1, w2, w3⟩ := run_ok X (rpb_of h) hB hN dd (by omega) rdy d3 (Or.inl rfl) (Or.inl ⟨rfl, c8, (rv.2.2.2 h64).2⟩) (k := 596) (by have := dn_wt b nu S S g7; omega)
  refine ⟨Mf, e, S', ?_, ?_, w3⟩
  · unfold fC_X2_runDemand
    rw [gd_k k35, gd_t (show is01 0 = true from rfl), gd_k g5, nn_s (show cR (wI (wI M (z + 35) 8 (nI d)) (z + 35) 9 0) st 8 = some (st + 9) from s1), gd_k s2, ck_n (show d < le K (st + 9) by omega) s4, nI_clamp (show d < 2 ^ 31 by omega), cI_wI_ne _ _ _ (show st + 9 ≠ z + 35 by omega), cI_wI_ne _ _ _ (show st + 9 ≠ z + 35 by omega), d1, c_run k35, w1]
    rfl
  · unfold fM_runs fG_works
    have ix : (20 : Int32) * nI b + nI d = nI (20 * b + d) := by rw [show (20 : Int32) = nI 20 from rfl, nI_mul, nI_add]
    have f11 : mF (pF (pF (pF (pF (pF S 68 (nI n)) 67 0) 95 0) 97 0) 92 (nI d)) 11 = nI b := g2
    rw [f11, ix, ck_n (show 20 * b + d < 40 by omega) (by decide), nI_clamp (show 20 * b + d < 2 ^ 31 by omega)]
    have a37 : mA (pF (pF (pF (pF (pF S 68 (nI n)) 67 0) 95 0) 97 0) 92 (nI d)) 37 (20 * b + d) = nI (10000 * b + r) := d2
    rw [a37]
    have w2' : gT N 600 3 (nI (10000 * b + r)) (-1) 0 0 0 (pF (pF (pF (pF (pF S 68 (nI n)) 67 0) 95 0) 97 0) 92 (nI d)) = some (e, S') := w2
    rw [w2', bs]
/-- only the class's and the reference's plain fields change -/
def PLF (z : Nat) (M M' : Cm) (S S' : Ms) : Prop := AgM (fun a => a ≠ z) M M' ∧ cL M' = cL M ∧ AgS (fun k => k ≠ 0 ∧ k ≠ 64 ∧ k ≠ 66 ∧ k ≠ 88 ∧ k ≠ 89) (fun _ => True) S S'
theorem RelP.plf (h : RelP z K M S b st nd nu nm) (p : PLF z M M' S S') (h1 : R1 z M' S') (h8 : cI M' z 8 = cI M z 8) : RelP z K M' S' b st nd nu nm := by
  obtain ⟨hM, hL, hS⟩ := p
  obtain ⟨o1, o2, o3, o4, o5, o6, o7, o8, o9, o10, o11, o12, o13, o14, o15, o16, o17, o18⟩ := h
  have A : ∀ k, mA S' k = mA S k := fun k => hS.2.1 k trivial
  have pz : ∀ a, z + 89 ≤ a → a ≠ z := fun a ha => by omega
  refine ⟨o1.sb hM, h1, o3.sb hM hS (by omega) (by decide) trivial, o4.sb hM hS (by omega) trivial, ?_, o6.sb hM hS (by omega) (by decide) ⟨trivial, trivial, trivial⟩, o7.sb hM hS (by omega) (by decide) ⟨trivial, trivial, trivial⟩, o8.sb hM hS (by omega) (by decide) ⟨trivial, trivial, trivial, trivial⟩, o9.sb hM hS (by omega) (by decide) ⟨trivial, trivial⟩, o10.sb hM hS (by omega) (by decide) ⟨trivial, trivial⟩, o11.sb hM hS (by omega) ⟨trivial, trivial, trivial, trivial, trivial, trivial⟩, o12.sb hM hS (by omega) ⟨trivial, trivial⟩, o13.sb hM hS pz (by decide) ⟨trivial, trivial, trivial⟩, o14.sb hM hS pz ⟨trivial, trivial, trivial, trivial⟩, o15.sb hM hS pz (by omega) ⟨trivial, trivial, trivial, trivial, trivial, trivial, trivial, trivial, trivial, trivial⟩ ⟨trivial, trivial⟩, o16.sb hM hS pz trivial, o17.sb hM hS pz (fun _ _ _ => trivial), o18⟩
  unfold RF
  rw [h8, hM.1 (z + 88) (by omega), hS.1 101 (by decide), hS.2.1 100 trivial]
  exact o5
theorem RV.plf (r : RelP z K M S b st nd nu nm) (p : PLF z M M' S S') (rv : RV z b st nd nu nm K M S) (hn : NCL S') : RV z b st nd nu nm K M' S' := by
  obtain ⟨hM, hL, hS⟩ := p
  exact ⟨cge_fr r (KE.rf K) (fun a a1 a2 => hM.1 a (by omega)) (fun a a1 a2 => by rw [hL]) hM.2.2 (fun k k1 k2 => hS.2.1 k trivial) (hS.2.2 26 trivial) rv.1, rv.2.1.ag (hS.1 75 (by decide)) (fun k hk => hS.2.1 k trivial), rv.2.2.1.ag (fun k hk => hS.2.1 k trivial), hn⟩
/-- what a run leaves -/
theorem cge_dd (h : RelP z K M S b st nd nu nm) (rv : CGE st b nd nu nm K M S ∧ (z + 174 ≤ st ∨ (nd = 0 ∧ nu = 0 ∧ nm = 0))) (sg : SAg z M Mf S S') : CGE st b nd nu nm K Mf S' ∧ (z + 174 ≤ st ∨ (nd = 0 ∧ nu = 0 ∧ nm = 0)) := by
  obtain ⟨g1, g2, g3, g4, g5, g6, g7, g8, -⟩ := h.2.2.2.2.2.2.2.2.2.2.2.2.1
  obtain ⟨h1, h2⟩ := rv
  refine ⟨?_, h2⟩
  rcases h2 with h2 | h2
  · exact h1.pw g7 g8 ⟨KE.rf K, fun a a1 _ _ => sg.1 a (by unfold stA; omega), fun a _ _ => by rw [sg.2.2.1], fun a a1 _ => by funext j; exact sg.2.2.2.1 a j (Or.inl (by omega))⟩ ⟨fun k j k1 k2 _ _ => by rw [sg.2.2.2.2.2.1 k (by unfold stR; omega)], fun j _ => by rw [sg.2.2.2.2.2.2]⟩
  · exact Or.inl h2
theorem RV.dd (h : RelP z K M S b st nd nu nm) (rv : RV z b st nd nu nm K M S) (dd : DD z b nd nu M S nh no Mf S') (hn : NCL S') : RV z b st nd nu nm K Mf S' :=
  ⟨cge_dd h rv.1 dd.1, dd.2.2.2.1, dd.2.2.2.2.2.2.2.1.1, hn⟩
theorem dm_fin (hf : RelP z K Mf S' b st nd nu nm) (rvf : RV z b st nd nu nm K Mf S') (f12 : cI Mf (z + 35) 12 = mF S' 67) (x y : Int32) : RelP z K (wI (wI (wI Mf z 9 x) z 10 y) z 11 (cI Mf (z + 35) 12)) (pF (pF (pF S' 66 (mF S' 67)) 88 x) 89 y) b st nd nu nm ∧ RV z b st nd nu nm K (wI (wI (wI Mf z 9 x) z 10 y) z 11 (cI Mf (z + 35) 12)) (pF (pF (pF S' 66 (mF S' 67)) 88 x) 89 y) := by
  have C : ∀ a, a ≠ z → cI (wI (wI (wI Mf z 9 x) z 10 y) z 11 (cI Mf (z + 35) 12)) a = cI Mf a := fun a ha => by rw [cI_wI_ne _ _ _ ha, cI_wI_ne _ _ _ ha, cI_wI_ne _ _ _ ha]
  have Cz : ∀ k, cI (wI (wI (wI Mf z 9 x) z 10 y) z 11 (cI Mf (z + 35) 12)) z k = if k = 11 then cI Mf (z + 35) 12 else if k = 10 then y else if k = 9 then x else cI Mf z k := fun k => by
    rw [cI_w, cI_w, cI_w]; simp
  have F : ∀ k, mF (pF (pF (pF S' 66 (mF S' 67)) 88 x) 89 y) k = if k = 89 then y else if k = 88 then x else if k = 66 then mF S' 67 else mF S' k := fun k => by rw [mF_F, mF_F, mF_F]
  have p : PLF z Mf (wI (wI (wI Mf z 9 x) z 10 y) z 11 (cI Mf (z + 35) 12)) S' (pF (pF (pF S' 66 (mF S' 67)) 88 x) 89 y) :=
    ⟨⟨C, fun _ _ => rfl, rfl⟩, rfl, fun k hk => by rw [F, if_neg (by omega), if_neg (by omega), if_neg (by omega)], fun _ _ => rfl, fun _ _ => rfl⟩
  obtain ⟨q1, q2, q3, q4, q5, q6, q7⟩ := hf.2.1
  refine ⟨hf.plf p ⟨?_, ?_, ?_, ?_, ?_, ?_, ?_⟩ ?_, rvf.plf hf p ?_⟩
  · rw [C _ (by omega), F]; exact q1
  · rw [Cz, F]; rfl
  · rw [Cz, F]; rfl
  · rw [Cz, F, if_pos rfl, if_neg (by decide), if_neg (by decide), if_pos rfl]; exact f12
  · rw [Cz, F]; exact q5
  · rw [F]; exact q6
  · rw [C _ (by omega), F]; exact q7
  · rw [Cz]; rfl
  · have := rvf.2.2.2
    unfold NCL at this ⊢
    rw [F, F]
    exact this
theorem g_demand (h0 : RelP z K M S b st nd nu nm) (rv0 : RV z b st nd nu nm K M S) (hob : HOB B0 S) (hB : B0 + 1000000 ≤ 1000000000) (hN : 1000000 < N) (v1 v2 : Int32) : ∃ M' S', fS_demand N z v1 v2 K M S = some (K, M', S') ∧ RelP z K M' S' b st nd nu nm ∧ RV z b st nd nu nm K M' S' ∧ HOB (B0 + 1000000) S' ∧ mF S' 64 = mF S 64 := by
  have h : RelP z K M (pF S 0 0) b st nd nu nm := h0.thr 0
  have rv := rv0.t0 h0 0
  have hob' : HOB B0 (pF S 0 0) := hob
  have up : HOB (B0 + 1000000) (pF S 0 0) := by obtain ⟨x, y, a1, a2, a3, a4⟩ := hob'; exact ⟨x, y, a1, a2, by omega, by omega⟩
  obtain ⟨q1, q2, q3, q4, q5, q6, q7⟩ := h.2.1
  obtain ⟨g1, g2, g3, -⟩ := h.2.2.2.2.2.2.2.2.2.2.2.2.1
  obtain ⟨r, c1, c2, c3⟩ := c_can h N v1 v2
  unfold fS_demand fC_X8_demand fM_demand
  rw [gd_k h.1.k9, gd_k h.1.k9, c1, bs, c2, bs]
  dsimp only
  rcases c3 with rfl | ⟨rfl, d, n, d1, rfl, n1, n5, rfl⟩
  · rw [if_pos rfl, if_pos rfl, bs, bs]
    exact ⟨M, pF S 0 0, gd_t (beq_self_eq_true _), h, rv, up, rfl⟩
  · rw [if_neg (show ¬ (1 : Int32) = 0 by decide), if_neg (show ¬ (1 : Int32) = 0 by decide), q5]
    by_cases s0 : mF (pF S 0 0) 64 = 0
    · rw [if_pos s0, if_pos s0, nn_s g3, nn_s (h.1.r0 5 35 (by decide)), gd_k (h.1.k 35 3 0 rfl)]
      obtain ⟨Mf, e, S', w1, w2, e3, ⟨nh, no, nb1, nb2, dd⟩, ⟨f14, f15, f16, f12⟩, ⟨-, c4⟩, f90⟩ := run_dem h rv hob' hB hN s0 d1 n1 n5
      have hf := dd.rel h
      have hL := hf.1
      have k35 := hL.k 35 3 0 rfl
      have n64 : mF S' 64 = mF S 64 := dd.1.2.2.2.2.1 64 (by unfold stF; omega)
      have rvf : RV z b st nd nu nm K Mf S' := rv.dd h dd (fun _ => ⟨(dd.1.2.2.2.2.1 87 (by unfold stF; omega)).trans (rv.2.2.2 s0).1, c4 rfl⟩)
      have hobf : ∀ x y, HOB (B0 + 1000000) (pF (pF (pF S' 66 (mF S' 67)) 88 x) 89 y) := fun x y => ⟨nh, no, dd.2.2.2.2.1.2.2.1, dd.2.2.2.2.2.1.2.2.1, nb1, nb2⟩
      have fin := fun x y => dm_fin hf rvf f12 x y
      rw [w1, bs, w2, bs, nn_s (hL.r0 5 35 (by decide)), gd_k k35, cR_I, nn_s (hL.r0 5 35 (by decide)), gd_k k35, cR_I, cR_I, nn_s (hL.r0 5 35 (by decide)), gd_k k35, cR_I, cR_I, cR_I, nn_s (hL.r0 5 35 (by decide)), gd_k k35]
      have c35 : ∀ (a b c : Int32) (k : Nat), cI (wI (wI (wI Mf z 9 a) z 10 b) z 11 c) (z + 35) k = cI Mf (z + 35) k := fun a b c k => by rw [cI_wI_ne _ _ _ (by omega), cI_wI_ne _ _ _ (by omega), cI_wI_ne _ _ _ (by omega)]
      have c35b : ∀ (a b : Int32) (k : Nat), cI (wI (wI Mf z 9 a) z 10 b) (z + 35) k = cI Mf (z + 35) k := fun a b k => by rw [cI_wI_ne _ _ _ (by omega), cI_wI_ne _ _ _ (by omega)]
      have c35c : ∀ (a : Int32) (k : Nat), cI (wI Mf z 9 a) (z + 35) k = cI Mf (z + 35) k := fun a k => by rw [cI_wI_ne _ _ _ (by omega)]
      have cz9 : ∀ a b c : Int32, cI (wI (wI (wI Mf z 9 a) z 10 b) z 11 c) z 9 = a := fun a b c => by rw [cI_w, if_neg (by omega), cI_w, if_neg (by omega), cI_w, if_pos ⟨rfl, rfl⟩]
      simp only [c35, c35b, c35c, cz9]
      unfold bM_demand_54 bM_demand_71 bM_demand_119
      rcases e3 with rfl | rfl | rfl
      · rw [if_neg (by decide)] at f14 f15 f16
        rw [f14, f15, f16, if_pos (show (0 : Int32) = 0 from rfl), if_pos (show (0 : Int32) = 0 from rfl), bs, if_neg (show ¬ (0 : Int32) = 1 by decide), if_neg (show ¬ (0 : Int32) = 1 by decide), if_pos (show (0 : Int32) = 0 from rfl), bs]
        obtain ⟨r1, r2⟩ := fin 0 0
        exact ⟨_, _, gd_t (beq_self_eq_true _), r1, r2, hobf 0 0, n64⟩
      · rw [if_neg (by decide)] at f14
        rw [if_pos rfl] at f15 f16
        have n90 := f90 rfl
        have m90 : mF (pF S' 66 (mF S' 67)) 90 = mF S' 90 := rfl
        have m91 : mF (pF (pF S' 66 (mF S' 67)) 88 (mF S' 90)) 91 = mF S' 91 := rfl
        have m90b : mF (pF (pF (pF S' 66 (mF S' 67)) 88 (mF S' 90)) 89 (mF S' 91)) 90 = mF S' 90 := rfl
        rw [f14, f15, f16, if_pos (show (0 : Int32) = 0 from rfl), if_neg n90, if_pos (show (1 : Int32) = 1 from rfl), if_pos (show (1 : Int32) = 1 from rfl), m90, m91, if_neg (show ¬ (1 : Int32) = 0 by decide), if_neg (show ¬ (1 : Int32) = 2 by decide), m90b]
        obtain ⟨r1, r2⟩ := fin (mF S' 90) (mF S' 91)
        by_cases y1 : mF S' 90 = 20
        · rw [if_pos y1, if_pos y1, bs, bs]
          exact ⟨_, _, gd_t (beq_self_eq_true _), r1, r2, hobf _ _, n64⟩
        · rw [if_neg y1, if_neg y1]
          by_cases y2 : mF S' 90 = 21
          · rw [if_pos y2, if_pos y2, bs, bs]
            exact ⟨_, _, gd_t (beq_self_eq_true _), r1, r2, hobf _ _, n64⟩
          · rw [if_neg y2, if_neg y2, bs, bs]
            exact ⟨_, _, gd_t (beq_self_eq_true _), r1, r2, hobf _ _, n64⟩
      · rw [if_pos rfl] at f14
        rw [if_neg (by decide)] at f15 f16
        rw [f14, f15, f16, if_neg (show ¬ (1 : Int32) = 0 by decide), bs, if_neg (show ¬ (2 : Int32) = 1 by decide), if_neg (show ¬ (2 : Int32) = 1 by decide), if_neg (show ¬ (2 : Int32) = 0 by decide), if_pos (show (2 : Int32) = 2 from rfl), bs]
        obtain ⟨r1, r2⟩ := fin 0 0
        exact ⟨_, _, gd_t (beq_self_eq_true _), r1, r2, hobf 0 0, n64⟩
    · rw [if_neg s0, if_neg s0, bs, bs]
      exact ⟨M, pF S 0 0, gd_t (beq_self_eq_true _), h, rv, up, rfl⟩
end DEMAND
