/-! close -/
/-- how many are up -/
def cU (S : Ms) : Nat → Nat
  | 0 => 0
  | n + 1 => cU S n + (if mA S 54 n = 2 then 1 else 0)
theorem cU_ag {S S' : Ms} (h : ∀ v, mA S' 54 v = mA S 54 v) : ∀ n, cU S' n = cU S n := by
  intro n
  induction n with
  | zero => rfl
  | succ n ih => rw [cU, cU, ih, h]
theorem cU_le {S : Ms} : ∀ n, cU S n ≤ n := by
  intro n
  induction n with
  | zero => exact Nat.le_refl _
  | succ n ih => rw [cU]; split <;> omega
theorem cU_dn {S S' : Ms} {u : Nat} (h : ∀ v, mA S' 54 v = if v = u then 4 else mA S 54 v) (hu : mA S 54 u = 2) : ∀ n, u < n → cU S' n + 1 = cU S n := by
  have lt : ∀ n, n ≤ u → cU S' n = cU S n := by
    intro n
    induction n with
    | zero => intro _; rfl
    | succ n ih => intro hn; rw [cU, cU, ih (by omega), h, if_neg (show ¬ n = u by omega)]
  intro n
  induction n with
  | zero => intro hn; omega
  | succ n ih =>
    intro hn
    rw [cU, cU, h]
    by_cases e : n = u
    · subst e
      rw [if_pos rfl, lt n (Nat.le_refl _), if_neg (by decide), if_pos hu]
    · have := ih (by omega)
      rw [if_neg e]; omega
theorem nI_m1 (n : Nat) : nI (n + 1) + (-1) = nI (n + 1) - 1 := (Int32.sub_eq_add_neg (nI (n + 1)) 1).symm
section CLOSE
variable {z b st nd nu nm lim nh no c B0 N m : Nat} {clo who : Int32} {K : Ka} {M M' M2 Mf Ma : Cm} {S S' S2 Ss Sa Sf : Ms} {mk : List Mk} {rc cc : Nat} {g : Nat → Nat × Nat × Nat} {pi : Nat → Nat} {J : Nat → Jt} {cl : Nat → List Nat}
def clC (z m u : Nat) (kd1 : Int32) (M : Cm) : Cm := wI (wI (wI (wI M (z + 9) u 4) (z + 34) (m * 2) (nI u)) (z + 34) (m * 2 + 1) kd1) (z + 30) 7 (nI (m + 1))
def clS (m u : Nat) (kd1 : Int32) (S : Ms) : Ms := pF (pA (pA (pA S 54 u 4) 85 m (nI u)) 86 m kd1) 87 (nI (m + 1))
theorem c_addClosed (hL : LY z K M) (N : Nat) (h7 : cI M (z + 30) 7 = nI m) (hm : m < 24) (x v : Int32) : fC_X0_addClosed N K (z + 30) x v M = some (wI (wI (wI M (z + 34) (m * 2) x) (z + 34) (m * 2 + 1) v) (z + 30) 7 (nI (m + 1))) := by
  have hq : cR M (z + 30) 3 = some (z + 34) := hL.r 30 3 34 (by decide)
  unfold fC_X0_addClosed bC_X0_addClosed_45
  have e4 : nI m * (2 : Int32) = nI (m * 2) := nI_mul m 2
  have e5 : nI (m * 2) + (1 : Int32) = nI (m * 2 + 1) := nI_add _ 1
  have k34 := hL.k 34 22 48 rfl
  have l34 := hL.l 34 22 48 rfl (by decide)
  rw [gd_k (hL.k 30 1 0 rfl), h7, if_neg (show ¬ (24 : Int32) ≤ nI m from nI_ge (b := 24) hm (by decide)), nn_s hq, gd_k k34, l34, e4, ck_n (show m * 2 < 48 by omega) (by decide), nI_clamp (show m * 2 < 2 ^ 31 by omega)]
  rw [cR_I, nn_s hq, gd_k k34, l34, cI_wI_ne _ _ _ (show z + 30 ≠ z + 34 by omega), h7, e4, e5, ck_n (show m * 2 + 1 < 48 by omega) (by decide), nI_clamp (show m * 2 + 1 < 2 ^ 31 by omega)]
  rw [cI_wI_ne _ _ _ (show z + 30 ≠ z + 34 by omega), cI_wI_ne _ _ _ (show z + 30 ≠ z + 34 by omega), h7, nI_1]
/-- between two closings -/
def CLR (z b st nd nu nm : Nat) (K : Ka) (M : Cm) (S : Ms) (m : Nat) : Prop := RelP z K M S b st nd nu nm ∧ (CGE st b nd nu nm K M S ∧ (z + 174 ≤ st ∨ (nd = 0 ∧ nu = 0 ∧ nm = 0))) ∧ UPI nu S ∧ NDI nu S ∧ mF S 87 = nI m ∧ m + cU S nu ≤ nu ∧ mF S 64 = 0
theorem UPI.clz {u : Nat} (h : UPI nu S) (f : mF S' 75 = mF S 75) (a : mA S' 55 = mA S 55 ∧ mA S' 72 = mA S 72 ∧ mA S' 73 = mA S 73) (a54 : ∀ j, mA S' 54 j = if j = u then 4 else mA S 54 j) : UPI nu S' := by
  obtain ⟨n, h1, h2, h3, h4, h5⟩ := h
  refine ⟨n, f.trans h1, h2, fun j hj => ?_, by rw [a.2.1, a.2.2]; exact h4, fun x hx q => ?_⟩
  · obtain ⟨x, e, c, b1, b2, b3, b4, b5, b6, b7⟩ := h3 j hj
    rw [a.1, a.2.1, a.2.2]
    refine ⟨x, e, c, b1, b2, b3, b4, b5, b6, fun q => ?_⟩
    rw [a54]
    by_cases ex : x = u
    · rw [if_pos ex]; exact Or.inr rfl
    · rw [if_neg ex]; exact b7 q
  · rw [a54] at q
    by_cases ex : x = u
    · rw [if_pos ex] at q; exact absurd q (by decide)
    · rw [if_neg ex] at q
      rw [a.1, a.2.1, a.2.2]
      exact h5 x hx q
theorem cl_rel (h : RelP z K M S b st nd nu nm) (h87 : mF S 87 = nI m) (hm : m < 24) {u : Nat} (hu : u < nu) (h2 : mA S 54 u = 2) (kd1 : Int32) : RelP z K (clC z m u kd1 M) (clS m u kd1 S) b st nd nu nm := by
  obtain ⟨o1, o2, o3, o4, o5, o6, o7, o8, o9, o10, o11, o12, o13, o14, o15, o16, o17, o18⟩ := h
  have nu24 := o13.2.2.2.2.2.2.1
  have C : ∀ a, a ≠ z + 9 → a ≠ z + 34 → a ≠ z + 30 → cI (clC z m u kd1 M) a = cI M a := fun a h1 h2 h3 => by unfold clC; rw [cI_wI_ne _ _ _ h3, cI_wI_ne _ _ _ h2, cI_wI_ne _ _ _ h2, cI_wI_ne _ _ _ h1]
  have C30 : ∀ k, k ≠ 7 → cI (clC z m u kd1 M) (z + 30) k = cI M (z + 30) k := fun k hk => by unfold clC; rw [cI_w, if_neg (fun w => hk w.2), cI_wI_ne _ _ _ (by omega), cI_wI_ne _ _ _ (by omega), cI_wI_ne _ _ _ (by omega)]
  have F : ∀ k, k ≠ 87 → mF (clS m u kd1 S) k = mF S k := fun k hk => by unfold clS; rw [mF_F, if_neg hk]; rfl
  have A : ∀ k, k ≠ 54 → k ≠ 85 → k ≠ 86 → mA (clS m u kd1 S) k = mA S k := fun k a1 a2 a3 => by unfold clS; rw [mA_F, mA_Ane _ _ _ a3, mA_Ane _ _ _ a2, mA_Ane _ _ _ a1]
  have hM : AgM (fun a => a ≠ z + 9 ∧ a ≠ z + 34 ∧ a ≠ z + 30) M (clC z m u kd1 M) := ⟨fun a ha => C a ha.1 ha.2.1 ha.2.2, fun _ _ => rfl, rfl⟩
  have hS : AgS (fun k => k ≠ 87) (fun k => k ≠ 54 ∧ k ≠ 85 ∧ k ≠ 86) S (clS m u kd1 S) := ⟨fun k hk => F k hk, fun k hk => A k hk.1 hk.2.1 hk.2.2, fun _ _ => rfl⟩
  refine ⟨o1.sb hM, o2.sb hM hS (by omega) (by decide), o3.sb hM hS (by omega) (by decide) (by decide), o4.sb hM hS (by omega) (by decide), o5.sb hM hS (by omega) (by decide) (by decide), ?_, ?_, ?_, ?_, o10.sb hM hS (by omega) (by decide) (by decide), ?_, o12.sb hM hS (by omega) (by decide), o13.sb hM hS (fun a ha => by omega) (by decide) (by decide), o14.sb hM hS (fun a ha => by omega) (by decide), o15.sb hM hS (fun a ha => by omega) (by omega) (by decide) (by decide), o16.sb hM hS (fun a ha => by omega) (by decide), o17.sb hM hS (fun a ha => by omega) (fun k k1 k2 => by omega), o18⟩
  · unfold RU at o6 ⊢
    rw [C30 _ (by decide), C _ (by omega) (by omega) (by omega), F _ (by decide), A _ (by decide) (by decide) (by decide), A _ (by decide) (by decide) (by decide), A _ (by decide) (by decide) (by decide)]
    exact o6
  · unfold RH at o7 ⊢
    rw [C30 _ (by decide), C _ (by omega) (by omega) (by omega), F _ (by decide), F _ (by decide), A _ (by decide) (by decide) (by decide), A _ (by decide) (by decide) (by decide), A _ (by decide) (by decide) (by decide)]
    exact o7
  · unfold RO at o8 ⊢
    rw [C30 _ (by decide), C _ (by omega) (by omega) (by omega), F _ (by decide), F _ (by decide), A _ (by decide) (by decide) (by decide), A _ (by decide) (by decide) (by decide), A _ (by decide) (by decide) (by decide), A _ (by decide) (by decide) (by decide)]
    exact o8
  · obtain ⟨n, r1, r2, r3, r4⟩ := o9
    have en : n = m := (nI_eq (by omega) (by omega)).mp (r3.symm.trans h87)
    subst en
    refine ⟨n + 1, by omega, by unfold clC; rw [cI_w, if_pos ⟨rfl, rfl⟩], by unfold clS; rw [mF_F, if_pos rfl], fun j hj => ?_⟩
    have c34 : ∀ i, cI (clC z n u kd1 M) (z + 34) i = if i = n * 2 + 1 then kd1 else if i = n * 2 then nI u else cI M (z + 34) i := fun i => by
      unfold clC
      rw [cI_wI_ne _ _ _ (by omega), cI_w, cI_w, cI_wI_ne _ _ _ (by omega)]; simp
    have d85 : mA (clS n u kd1 S) 85 j = if j = n then nI u else mA S 85 j := by
      unfold clS
      rw [mA_F, mA_Ane _ _ _ (by decide), mA_A, mA_Ane _ _ _ (by decide)]; simp
    have d86 : mA (clS n u kd1 S) 86 j = if j = n then kd1 else mA S 86 j := by
      unfold clS
      rw [mA_F, mA_A, mA_Ane _ _ _ (by decide), mA_Ane _ _ _ (by decide)]; simp
    rw [d85, d86, c34, c34]
    by_cases e : j = n
    · subst e
      rw [if_pos rfl, if_pos rfl, if_neg (by omega), if_pos rfl, if_pos rfl]
      exact ⟨rfl, rfl⟩
    · rw [if_neg e, if_neg e, if_neg (by omega), if_neg (by omega), if_neg (by omega), if_neg (by omega)]
      exact r4 j (by omega)
  · refine RE.ag (M := wI M (z + 9) u 4) (S := pA S 54 u 4) ⟨?_, ?_, ?_, ?_, ?_, ?_⟩ ⟨?_, ?_, ?_, ?_, ?_, ?_⟩ (o11.st0 hu nu24 (by rw [h2]; decide) (by decide) ⟨4, by decide, rfl⟩)
    any_goals (unfold clC; rw [cI_wI_ne _ _ _ (by omega), cI_wI_ne _ _ _ (by omega), cI_wI_ne _ _ _ (by omega)])
    all_goals (unfold clS; rw [mA_F, mA_Ane _ _ _ (by decide), mA_Ane _ _ _ (by decide)])
/-- a unit closed by both -/
theorem cl_one (c : CLR z b st nd nu nm K M S m) (hob : HOB B0 S) (hB : B0 + 1000000 ≤ 1000000000) (hN : 1000000 < N) {u : Nat} (hu : u < nu) (h2 : mA S 54 u = 2) :
    ∃ kd1 Mf Sf, fC_X2_runClosing N K (z + 35) st (nI u) M = some (kd1, Mf) ∧ fM_closes N (nI u) S = some (clS m u kd1 Sf) ∧ CLR z b st nd nu nm K (clC z m u kd1 Mf) (clS m u kd1 Sf) (m + 1) ∧ RelP z K Mf Sf b st nd nu nm ∧ mF Sf 87 = nI m ∧ m < 24 ∧ HOB (B0 + 1000000) (clS m u kd1 Sf) ∧ (∀ v, mA (clS m u kd1 Sf) 54 v = if v = u then 4 else mA S 54 v) ∧ mA Sf 55 = mA S 55 ∧ (∀ n, n ≤ 744 → mF S 75 = nI n → ∃ n', mF Sf 75 = nI n' ∧ n ≤ n' ∧ n' ≤ 744 ∧ ∀ j, j < n → mA Sf 72 j = mA S 72 j ∧ mA Sf 73 j = mA S 73 j) := by
  obtain ⟨h, cg, up, nd1, h87, mc, h64⟩ := c
  obtain ⟨mk, rc, cc, g, pi, J, cl, X, dm, -⟩ := cdx_of h cg (Or.inl (by omega))
  obtain ⟨nh, no, o1, o2, o3, o4, dd⟩ := DD.start h up nd1
  obtain ⟨nh', no', p1, p2, p3, p4⟩ := hob
  have e1 : nh = nh' := (nI_eq (by omega) (by omega)).mp (o1.symm.trans p1)
  have e2 : no = no' := (nI_eq (by omega) (by omega)).mp (o2.symm.trans p2)
  obtain ⟨b2, rc8⟩ := X.b2
  obtain ⟨g1, g2, g3, g4, g5, g6, g7, g8, -⟩ := h.2.2.2.2.2.2.2.2.2.2.2.2.1
  have hst := X.1.1
  have k35 := h.1.k 35 3 0 rfl
  have cpos : 1 ≤ cU S nu := by
    have a54 : ∀ v, mA (pA S 54 u 4) 54 v = if v = u then 4 else mA S 54 v := fun v => by rw [mA_A]; simp
    have := cU_dn a54 h2 nu hu
    omega
  obtain ⟨⟨t1, t2, t3, t4⟩, tu, t5, t6, t7⟩ := X.told hu
  obtain ⟨tu', cu, u1, -, -, -, -, -, -, -, -, -, -, u14⟩ := X.2.2.2.1 u hu
  have et : tu' = tu := by rw [t5] at u1; cases u1; rfl
  subst et
  have vi : (nI (24 * b + u)).toNatClampNeg = 24 * b + u := nI_clamp (by omega)
  -- what follows the run
  have tail : ∀ (kd1 e : Int32) (Mf : Cm) (Sf : Ms), RelP z K Mf Sf b st nd nu nm → (CGE st b nd nu nm K Mf Sf ∧ (z + 174 ≤ st ∨ (nd = 0 ∧ nu = 0 ∧ nm = 0))) → UPI nu Sf → NDI nu Sf → mF Sf 87 = nI m → mF Sf 64 = 0 → mA Sf 54 = mA S 54 → mA Sf 55 = mA S 55 → HOB (B0 + 1000000) Sf → kd1 = (if e = 0 then 0 else if e = 2 then 22 else mF Sf 90) → bM_closes_56 N (nI u) e Sf = some (clS m u kd1 Sf) ∧ CLR z b st nd nu nm K (clC z m u kd1 Mf) (clS m u kd1 Sf) (m + 1) ∧ HOB (B0 + 1000000) (clS m u kd1 Sf) ∧ (∀ v, mA (clS m u kd1 Sf) 54 v = if v = u then 4 else mA S 54 v) := fun kd1 e Mf Sf hf cgf upf ndf f87 f64 f54 f55 hobf hk => by
    have a54 : ∀ v, mA (clS m u kd1 Sf) 54 v = if v = u then 4 else mA S 54 v := fun v => by
      unfold clS
      rw [mA_F, mA_Ane _ _ _ (by decide), mA_Ane _ _ _ (by decide), mA_A, f54]; simp
    have a54' : ∀ v, mA (clS m u kd1 Sf) 54 v = if v = u then 4 else mA Sf 54 v := fun v => by rw [a54, f54]
    have Ao : ∀ k, k ≠ 54 → k ≠ 85 → k ≠ 86 → mA (clS m u kd1 Sf) k = mA Sf k := fun k a1 a2 a3 => by unfold clS; rw [mA_F, mA_Ane _ _ _ a3, mA_Ane _ _ _ a2, mA_Ane _ _ _ a1]
    have Fo : ∀ k, k ≠ 87 → mF (clS m u kd1 Sf) k = mF Sf k := fun k hk => by unfold clS; rw [mF_F, if_neg hk]; rfl
    have cdn := cU_dn a54 h2 nu hu
    refine ⟨?_, ⟨cl_rel hf f87 (by omega) hu (by rw [f54]; exact h2) kd1, ?_, upf.clz (u := u) (Fo 75 (by decide)) ⟨Ao 55 (by decide) (by decide) (by decide), Ao 72 (by decide) (by decide) (by decide), Ao 73 (by decide) (by decide) (by decide)⟩ a54', ndf.ag (fun k hk => Ao k (by omega) (by omega) (by omega)), by unfold clS; rw [mF_F, if_pos rfl], by omega, (Fo 64 (by decide)).trans f64⟩, ?_, a54⟩
    · unfold bM_closes_56 bM_closes_103
      rw [ck_n (show u < 24 by omega) (by decide), nI_clamp (show u < 2 ^ 31 by omega)]
      simp only [mF_A, f87]
      rw [ck_n (show m < 24 by omega) (by decide), nI_clamp (show m < 2 ^ 31 by omega), ck_n (show m < 24 by omega) (by decide), ck_n (show m < 24 by omega) (by decide), ck_n (show m < 24 by omega) (by decide), nI_1, hk]
      unfold clS
      by_cases y0 : e = 0
      · rw [if_pos y0, if_pos y0]
      · rw [if_neg y0, if_neg y0]
        by_cases y2 : e = 2
        · rw [if_pos y2, if_pos y2]
        · rw [if_neg y2, if_neg y2]
    · obtain ⟨h1, h2'⟩ := cgf
      refine ⟨?_, h2'⟩
      rcases h2' with h2' | h2'
      · have hC : CLp st K K Mf (clC z m u kd1 Mf) := ⟨KE.rf K, fun a a1 _ _ => by
          unfold clC
          rw [cI_wI_ne _ _ _ (by omega), cI_wI_ne _ _ _ (by omega), cI_wI_ne _ _ _ (by omega), cI_wI_ne _ _ _ (by omega)], fun a _ _ => rfl, fun a _ _ => rfl⟩
        have hW : RWp b Sf (clS m u kd1 Sf) := ⟨fun k j k1 k2 _ _ => by rw [Ao k (by omega) (by omega) (by omega)], fun j _ => rfl⟩
        exact h1.pw g7 g8 hC hW
      · exact Or.inl h2'
    · obtain ⟨x, y, w1, w2, w3, w4⟩ := hobf
      exact ⟨x, y, (Fo 79 (by decide)).trans w1, (Fo 84 (by decide)).trans w2, w3, w4⟩
  unfold fC_X2_runClosing fM_closes
  rw [gd_k g5, nn_s t1, gd_k t2, ck_n (show u < le K (st + 6) by omega) (by omega), nI_clamp (show u < 2 ^ 31 by omega), nn_s t5, gd_k t6, g2, ix24, ck_n (show 24 * b + u < 48 by omega) (by decide), vi]
  rcases u14 with ⟨w1, w2⟩ | ⟨r, c, w1, w2, w3⟩
  · rw [w1, w2, if_neg (by decide), if_pos (by decide)]
    obtain ⟨x1, x2, x3, x4⟩ := tail 0 0 M S h cg up nd1 h87 h64 rfl rfl ⟨nh', no', p1, p2, by omega, by omega⟩ (by rw [if_pos rfl])
    exact ⟨0, M, S, rfl, x1, x2, h, h87, by omega, x3, x4, rfl, fun n h7 hn => ⟨n, hn, Nat.le_refl _, h7, fun j hj => ⟨rfl, rfl⟩⟩⟩
  · have mch0 : MCH z M (prC z st (nI 2000) (wI M (z + 35) 9 1)) S (pF (pF (pF (pF S 68 2000) 67 0) 95 0) 97 0) :=
      ((((((MCH.rf z M S).wI (a := z + 35) (k := 9) (v := 1) (Or.inl ⟨rfl, by decide⟩)).tr (prC_mch z st (nI 2000) _ S)).pF (k := 68) (v := 2000) (by omega)).pF (k := 67) (v := 0) (by omega)).pF (k := 95) (v := 0) (by omega)).pF (k := 97) (v := 0) (by omega)
    have P := prC_35 z st (nI 2000) (wI M (z + 35) 9 1)
    have rdy : RDY z st 2000 1 M (prC z st (nI 2000) (wI M (z + 35) 9 1)) S (pF (pF (pF (pF S 68 2000) 67 0) 95 0) 97 0) := by
      refine ⟨mch0, ⟨?_, ?_, ?_, ?_, ?_, ?_, ?_, ?_⟩, by decide, ?_, ?_, ?_, ?_, ?_, ?_⟩
      · unfold prC
        rw [cR_I, cR_I, cR_I, cR_I, cR_I, cR_I, cR_I, cR_I, cR_w, if_pos ⟨rfl, rfl⟩]
      · rw [P]; rfl
      · rw [P]; rfl
      · rw [P]; rfl
      · rw [P]; rfl
      · rw [P]; rfl
      · rw [P]; rfl
      · rw [P, if_neg (by decide), if_neg (by decide), if_neg (by decide), if_neg (by decide), if_neg (by decide), if_neg (by decide), if_neg (by decide), if_neg (by decide), cI_w, if_pos ⟨rfl, rfl⟩]
      · rfl
      · rfl
      · rw [P]; rfl
      · rw [P]; rfl
      · rfl
      · rfl
    obtain ⟨Mf, e, Sf, y1, y2, e3, ⟨nhf, nof, nb1, nb2, df⟩, ⟨f14, f15, f16, f12⟩, ⟨c4, -⟩, f90⟩ := run_ok X (rpb_of h) hB hN dd (by omega) rdy w3 (Or.inr ⟨u, hu, rfl⟩) (Or.inr rfl) (k := 596) (by have := dn_wt b nu S S g7; omega)
    have hc : 0 ≤ nI c := by
      by_cases q : (0 : Int32) ≤ nI c
      · exact q
      · exact absurd (nI_ge0 (k := c) (by
          obtain ⟨mr, mc'⟩ := X.2.2.2.2.2.2.1 _ w3
          obtain ⟨-, mp, -⟩ := mc' rfl
          have mp' : pi r = c := mp
          have mr' : r < rc := mr
          have := (X.pl mr').1
          have := X.1.2.2.2.2.1
          omega)) q
    have hr : ¬ nI (10000 * b + r) < 0 := nI_nl (by
      obtain ⟨mr, -⟩ := X.2.2.2.2.2.2.1 _ w3
      have mr' : r < rc := mr
      omega)
    have a33 : mA (pF (pF (pF (pF S 68 2000) 67 0) 95 0) 97 0) 33 (24 * b + u) = nI (10000 * b + r) := w2
    rw [w1, w2, if_pos hc, if_neg hr, gd_k k35, gd_t (show is01 1 = true from rfl), show (2000 : Int32) = nI 2000 from rfl, c_run k35, ck_n (show 24 * b + u < 48 by omega) (by decide)]
    unfold fG_works bC_X2_runClosing_47
    have y1' : ((fC_X2_enter N K (z + 35) (nI u) (nI c) (prC z st (nI 2000) (wI M (z + 35) 9 1))).bind fun o => RN N K z st 0 o) = some Mf := y1
    have y2' : gT N 600 3 (mA (pF (pF (pF (pF S 68 (nI 2000)) 67 0) 95 0) 97 0) 33 (24 * b + u)) (nI u) 1 0 0 (pF (pF (pF (pF S 68 (nI 2000)) 67 0) 95 0) 97 0) = some (e, Sf) := by
      have : mA (pF (pF (pF (pF S 68 (nI 2000)) 67 0) 95 0) 97 0) 33 (24 * b + u) = nI (10000 * b + r) := w2
      rw [this]
      exact y2
    rw [y1', bs, y2', bs]
    have hf := df.rel h
    have hobf : HOB (B0 + 1000000) Sf := ⟨nhf, nof, df.2.2.2.2.1.2.2.1, df.2.2.2.2.2.1.2.2.1, nb1, nb2⟩
    have f87 : mF Sf 87 = nI m := (df.1.2.2.2.2.1 87 (by unfold stF; omega)).trans h87
    have f64 : mF Sf 64 = 0 := (df.1.2.2.2.2.1 64 (by unfold stF; omega)).trans h64
    have f55 : mA Sf 55 = mA S 55 := df.1.2.2.2.2.2.1 55 (by unfold stR; omega)
    have gr : ∀ n, n ≤ 744 → mF S 75 = nI n → ∃ n', mF Sf 75 = nI n' ∧ n ≤ n' ∧ n' ≤ 744 ∧ ∀ j, j < n → mA Sf 72 j = mA S 72 j ∧ mA Sf 73 j = mA S 73 j := fun n h744 hn => by
      obtain ⟨⟨n0, n', v1, v2, v3, v4, v5, -⟩, -⟩ := df.2.2.2.2.2.2.2.1.2
      obtain ⟨nu', v6, v7, -⟩ := up
      have en : n = n0 := (nI_eq (by omega) (by omega)).mp (hn.symm.trans v1)
      exact ⟨n', v2, by omega, v4, fun j hj => v5 j (by omega)⟩
    have fin : ∀ kd1 : Int32, kd1 = (if e = 0 then 0 else if e = 2 then 22 else mF Sf 90) → ∃ kd2 Mf' Sf', (some (kd1, Mf) : Option (Int32 × Cm)) = some (kd2, Mf') ∧ bM_closes_56 N (nI u) e Sf = some (clS m u kd2 Sf') ∧ CLR z b st nd nu nm K (clC z m u kd2 Mf') (clS m u kd2 Sf') (m + 1) ∧ RelP z K Mf' Sf' b st nd nu nm ∧ mF Sf' 87 = nI m ∧ m < 24 ∧ HOB (B0 + 1000000) (clS m u kd2 Sf') ∧ (∀ v, mA (clS m u kd2 Sf') 54 v = if v = u then 4 else mA S 54 v) ∧ mA Sf' 55 = mA S 55 ∧ (∀ n, n ≤ 744 → mF S 75 = nI n → ∃ n', mF Sf' 75 = nI n' ∧ n ≤ n' ∧ n' ≤ 744 ∧ ∀ j, j < n → mA Sf' 72 j = mA S 72 j ∧ mA Sf' 73 j = mA S 73 j) := fun kd1 hk => by
      obtain ⟨x1, x2, x3, x4⟩ := tail kd1 e Mf Sf hf (cge_dd h cg df.1) df.2.2.2.1 df.2.2.2.2.2.2.2.1.1 f87 f64 (c4 rfl) f55 hobf hk
      exact ⟨kd1, Mf, Sf, rfl, x1, x2, hf, f87, by omega, x3, x4, f55, gr⟩
    rcases e3 with rfl | rfl | rfl
    · rw [if_neg (by decide)] at f14 f15
      rw [f14, if_pos rfl, f15]
      exact fin 0 (by rw [if_pos rfl])
    · rw [if_neg (by decide)] at f14
      rw [if_pos rfl] at f15
      rw [f14, if_pos rfl, f15]
      exact fin (mF Sf 90) (by rw [if_neg (by decide), if_neg (by decide)])
    · rw [if_pos rfl] at f14
      rw [f14, if_neg (by decide)]
      exact fin 22 (by rw [if_neg (by decide), if_pos rfl])
end CLOSE
