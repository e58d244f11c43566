/-! runs: every unit's coming up -/
def ecU (N : Nat) (GT : Nat → Int32 → Int32 → Int32 → Int32 → Int32 → Ms → Option (Int32 × Ms)) (u vi : Int32) (S : Ms) : Option (Int32 × Ms) := if (mA S 20 (vi : Int32).toNatClampNeg) = 0 then ((bM_comesUp_123 N GT) u vi 0 S) else (ck vi 48 (if 0 ≤ (mA S 22 (vi : Int32).toNatClampNeg) then (ck vi 48 ((GT 0 (mA S 22 (vi : Int32).toNatClampNeg) 0 0 0 0 S).bind fun o48 => (bM_comesUp_51 N GT) u vi o48.1 o48.2)) else ((bM_comesUp_51 N GT) u vi 0 S)))
theorem FLt_e (b : Nat) (S0 : Ms) (L : List Nat) : FLt b S0 [] L = L.filter (fun x => decide (mA S0 21 (24 * b + x) ≠ 0)) := by
  unfold FLt
  congr 1
  exact List.filter_eq_self.mpr (fun x _ => by simp)
section CU
variable {z b st nd nu lim nh no h fl t0 c B0 N t sz ts dm : Nat} {clo who : Int32} {U : List Nat} {K : Ka} {M0 M M1 M2 M3 M' Mb Mf : Cm} {S0 S S1 S2 S3 Sb S' : Ms} {mk : List Mk} {rc cc : Nat} {g : Nat → Nat × Nat × Nat} {pi : Nat → Nat} {J : Nat → Jt} {cl : Nat → List Nat}
theorem b123_ne (hN : 0 < N) (GT : Nat → Int32 → Int32 → Int32 → Int32 → Int32 → Ms → Option (Int32 × Ms)) (x1 x2 : Int32) {e : Int32} (he : e ≠ 0) (S : Ms) : bM_comesUp_123 N GT x1 x2 e S = bM_comesUp_201 N GT x1 e S := by
  obtain ⟨n, hn⟩ : ∃ n, N = n + 1 := ⟨N - 1, by omega⟩
  have h1 : bM_comesUp_184 N GT x1 x2 e S = bM_comesUp_201 N GT x1 e S := by
    unfold bM_comesUp_184
    rw [if_neg he]
  unfold bM_comesUp_123
  have h2 : ∀ n, lM_comesUp_126 N GT (bM_comesUp_184 N GT) (n + 1) x1 x2 e 0 S = bM_comesUp_184 N GT x1 x2 e S := fun n => by
    rw [lM_comesUp_126, if_neg he]
    split <;> rfl
  have := h2 n
  rw [← hn] at this
  rw [this, h1]
theorem b51_ne (hN : 30 < N) (GT : Nat → Int32 → Int32 → Int32 → Int32 → Int32 → Ms → Option (Int32 × Ms)) {u vi : Nat} (hu : u < 24) (hv : vi < 48) {e : Int32} (he : e ≠ 0) (S : Ms) : ∃ S', bM_comesUp_51 N GT (nI u) (nI vi) e S = bM_comesUp_201 N GT (nI u) e S' ∧ R93 u S S' := by
  obtain ⟨S', a1, a2, -⟩ := c55 N GT (bM_comesUp_81 N GT) hu (nI vi) e N 0 S (by omega) (by omega)
  refine ⟨S', ?_, a2⟩
  unfold bM_comesUp_51
  refine Eq.trans a1 ?_
  unfold bM_comesUp_81
  have h2 : ∀ n, lM_comesUp_84 N GT (bM_comesUp_123 N GT) (n + 1) (nI u) (nI vi) e 0 S' = bM_comesUp_123 N GT (nI u) (nI vi) e S' := fun n => by
    rw [lM_comesUp_84, ck_n hv (by decide), if_neg he]
    split <;> rfl
  obtain ⟨n, hn⟩ : ∃ n, N = n + 1 := ⟨N - 1, by omega⟩
  have := h2 n
  rw [← hn] at this
  rw [this, b123_ne (by omega) GT _ _ he]
theorem bo_io {q P P' : Nat} {e : Int32} (he : e ≠ 0) (hP : P ≤ P') (h1 : BOUT z b st nd nu lim B0 N K M0 S0 Mb Sb t h fl t0 U who q P M e S') : IOUT z b st nd nu lim B0 N K M0 S0 Mb Sb cc t h fl t0 U who P' M e S' := by
  rcases h1 with ⟨w, -⟩ | ⟨rfl, t', j, M', a1, a2, a3, a4, a5, a6, a7, a8⟩ | w
  · exact absurd w he
  · exact Or.inr (Or.inl ⟨rfl, t', j, M', a1, a2, a3, a4, a5, a6, by omega, a8⟩)
  · exact Or.inr (Or.inr w)
theorem IOUT.pre {t1 P P' : Nat} {e : Int32} (hr : RN N K z st t M = RN N K z st t1 M1) (ht : t ≤ t1) (hP : P ≤ P') (h1 : IOUT z b st nd nu lim B0 N K M0 S0 Mb Sb cc t1 h fl t0 U who P M1 e S') : IOUT z b st nd nu lim B0 N K M0 S0 Mb Sb cc t h fl t0 U who P' M e S' := by
  rcases h1 with ⟨rfl, t', M', q, a1, a2, a3, a4, a5, a6, a7, a8⟩ | ⟨rfl, t', j, M', a1, a2, a3, a4, a5, a6, a7, a8⟩ | ⟨rfl, a0, Mf, a1, a2⟩
  · exact Or.inl ⟨rfl, t', M', q, hr.trans a1, a2, a3, a4, a5, a6, by omega, by omega⟩
  · exact Or.inr (Or.inl ⟨rfl, t', j, M', hr.trans a1, a2, a3, a4, a5, a6, by omega, by omega⟩)
  · exact Or.inr (Or.inr ⟨rfl, a0, Mf, hr.trans a1, a2⟩)
theorem wt_ge (b nu : Nat) (S0 : Ms) (u : Nat) : 7 ≤ wt b nu S0 u := by unfold wt; split <;> omega
/-- a module's roles, then its own start -/
theorem md_ok (X : CDX z b st nd nu K M0 S0 mk rc cc g pi J cl) (hP : RPB z nu M0 S0) (hB : B0 + 1000000 ≤ 1000000000) (hN : 1000000 < N) (hC : CUs z b st nd nu lim B0 N K M0 S0 dm) {u k : Nat} (huU : u ∈ U) (hub : mA Sb 54 u = 0) (hdb : dn Sb (fun _ => 1) nu ≤ dm + 1) (hkb : dn Sb (wt b nu S0) nu ≤ k + 1) {r0 c0 : Nat} {bl : List Nat} (hm : umk r0 c0 bl ∈ mk) (h32 : mA S0 32 (24 * b + u) = nI (10000 * b + r0)) (h20 : mA S0 20 (24 * b + u) ≠ 0) {q : Nat} (hq : q + ((cl u).filter (fun x => decide (mA S0 21 (24 * b + x) ≠ 0))).length + 1 = c0) (hw : WDS cc st M0 q ((cl u).filter (fun x => decide (mA S0 21 (24 * b + x) ≠ 0)))) (s : BRS z b st nd nu lim B0 M0 S0 Mb Sb t h fl t0 U (nI u) q M S) (hT : t + gS nu S + 2 * ((cl u).filter (fun x => decide (mA S0 21 (24 * b + x) ≠ 0))).length + 190 ≤ 1000000) :
    ∃ e S', bM_comesUp_51 N (gT N k) (nI u) (nI (24 * b + u)) 0 S = bM_comesUp_201 N (gT N k) (nI u) e S' ∧ IOUT z b st nd nu lim B0 N K M0 S0 Mb Sb cc t h fl t0 U (nI u) (t + gS nu S + 2 * ((cl u).filter (fun x => decide (mA S0 21 (24 * b + x) ≠ 0))).length + 184) M e S' := by
  have hn24 : nu ≤ 24 := X.1.2.1
  obtain ⟨b2, rc8⟩ := X.b2
  obtain ⟨-, un, -⟩ := s.dn (wt b nu S0) huU hub
  have w7 := wt_ge b nu S0 u
  have wm : wt b nu S0 u = 7 + kR S0 b nu := by unfold wt; rw [if_neg h20]
  have km := kR_mono S0 b nu (show u ≤ nu by omega)
  obtain ⟨nr, n1, n2, n3, n4, n5⟩ := X.cls un
  rw [if_neg h20, List.append_nil] at n4
  obtain ⟨S2, a1, a2, a3⟩ := c55 N (gT N k) (bM_comesUp_81 N (gT N k)) (u := u) (by omega) (nI (24 * b + u)) 0 N 0 S (by omega) (by omega)
  have s2 := s.r93 a2 hub
  have g2 := a2.gs (nu := nu)
  have eF : FLt b S0 [] (clr S0 b cl u nr) = (cl u).filter (fun x => decide (mA S0 21 (24 * b + x) ≠ 0)) := by rw [FLt_e, n4]
  have c0' : FLt b S0 [] (clr S0 b cl u 0) = [] := rfl
  obtain ⟨e, S', b1, b2', b3⟩ := br_lp X (k := k) (kk := bM_comesUp_123 N (gT N k) (nI u) (nI (24 * b + u))) un n1 n2 n3 (by omega) (W := []) (fun x _ hm => absurd hm (List.not_mem_nil)) (fun r h1 h2 => tr_ok X hN hC huU hub hdb (r + 1) r (by omega) (by omega) h2) (q := q) (by rw [eF]; exact hw) nr 0 t N M S2 (by omega) (by rw [c0']; exact s2) (fun x hx => by rw [a3 x hx, if_pos (Nat.zero_le _), if_neg (show ¬ x ∈ [] ++ clr S0 b cl u 0 from List.not_mem_nil)]) (by omega) (by rw [c0', eF, List.length_nil]; omega)
  rw [c0', eF, List.length_nil, Nat.sub_zero] at b2'
  have hE : bM_comesUp_51 N (gT N k) (nI u) (nI (24 * b + u)) 0 S = bM_comesUp_123 N (gT N k) (nI u) (nI (24 * b + u)) e S' := by
    unfold bM_comesUp_51
    refine Eq.trans a1 ?_
    unfold bM_comesUp_81
    rw [rlp_m]
    exact b1
  by_cases e0 : e = 0
  · subst e0
    rcases b2' with ⟨-, t', M', q1, q2, q3, q4⟩ | ⟨w, -⟩ | ⟨w, -⟩
    · obtain ⟨e, S'', z1, z2⟩ := pl_ok X hP hB hN hC huU hub hdb (k := k) (by omega) hm h32 hq q2 (by omega)
      exact ⟨e, S'', hE.trans z1, z2.pre q1 q4 (by omega)⟩
    · exact absurd w (by decide)
    · exact absurd w (by decide)
  · exact ⟨e, S', hE.trans (b123_ne (by omega) _ _ _ e0 _), bo_io e0 (by omega) b2'⟩
theorem cs_ok (X : CDX z b st nd nu K M0 S0 mk rc cc g pi J cl) (hP : RPB z nu M0 S0) (hB : B0 + 1000000 ≤ 1000000000) (hN : 1000000 < N) (hC : CUs z b st nd nu lim B0 N K M0 S0 dm) {u k : Nat} (huU : u ∈ U) (hub : mA Sb 54 u = 0) (hdb : dn Sb (fun _ => 1) nu ≤ dm + 1) (hkb : dn Sb (wt b nu S0) nu ≤ k + 1) {r0 c0 : Nat} (hm : umk r0 c0 (blq S0 b cl u) ∈ mk) (h32 : mA S0 32 (24 * b + u) = nI (10000 * b + r0)) {q : Nat} (hq : q + (blq S0 b cl u).length + 1 = c0) (s : BRS z b st nd nu lim B0 M0 S0 Mb Sb t h fl t0 U (nI u) q M S) (hT : t + gS nu S + 2 * (blq S0 b cl u).length + 190 ≤ 1000000) :
    ∃ e S', ecU N (gT N k) (nI u) (nI (24 * b + u)) S = bM_comesUp_201 N (gT N k) (nI u) e S' ∧ IOUT z b st nd nu lim B0 N K M0 S0 Mb Sb cc t h fl t0 U (nI u) (t + gS nu S + 2 * (blq S0 b cl u).length + 184) M e S' := by
  have hn24 : nu ≤ 24 := X.1.2.1
  obtain ⟨b2, rc8⟩ := X.b2
  obtain ⟨dn1, un, -⟩ := s.dn (wt b nu S0) huU hub
  obtain ⟨dn2, -, -⟩ := s.dn (fun _ => 1) huU hub
  have w7 := wt_ge b nu S0 u
  obtain ⟨A, F⟩ := s.row
  have vi : (nI (24 * b + u)).toNatClampNeg = 24 * b + u := nI_clamp (by omega)
  have hwd : WDS cc st M0 q (blq S0 b cl u) := by
    obtain ⟨mr, mc⟩ := X.2.2.2.2.2.2.1 _ hm
    obtain ⟨-, mp, mc3⟩ := mc rfl
    obtain ⟨-, -, -, l1, -, w7', -⟩ := mc3 rfl
    have mp' : pi r0 = c0 := mp
    have mr' : r0 < rc := mr
    have pl := X.pl mr'
    have tp := tw_pos (g r0)
    intro i hi
    have := w7' i hi
    have e : c0 - ((blq S0 b cl u).length + 1) + i = q + i := by omega
    refine ⟨?_, by omega⟩
    rw [← e]
    exact this
  unfold ecU
  rw [vi, A 20 (by unfold stR; omega), A 22 (by unfold stR; omega)]
  by_cases h20 : mA S0 20 (24 * b + u) = 0
  · have ebl : blq S0 b cl u = [] := by unfold blq; rw [if_pos h20]
    rw [ebl] at hq hT hm ⊢
    rw [if_pos h20]
    rw [List.length_nil] at hq hT ⊢
    obtain ⟨e, S', z1, z2⟩ := pl_ok X hP hB hN hC huU hub hdb (k := k) (by omega) hm h32 (q := q) (by omega) s (by omega)
    exact ⟨e, S', z1, z2.pre rfl (Nat.le_refl _) (by omega)⟩
  · have ebl : blq S0 b cl u = (if mA S0 22 (24 * b + u) < 0 then [] else [(mA S0 22 (24 * b + u)).toNatClampNeg]) ++ (cl u).filter (fun x => decide (mA S0 21 (24 * b + x) ≠ 0)) := by unfold blq; rw [if_neg h20]
    rw [if_neg h20, ck_n (show 24 * b + u < 48 by omega) (by decide)]
    by_cases h22 : mA S0 22 (24 * b + u) < 0
    · rw [if_pos h22, List.nil_append] at ebl
      rw [if_neg (show ¬ (0 : Int32) ≤ mA S0 22 (24 * b + u) from Int32.not_le.mpr h22)]
      rw [ebl] at hq hT hwd ⊢
      exact md_ok X hP hB hN hC huU hub hdb hkb hm h32 h20 hq hwd s hT
    · rw [if_neg h22] at ebl
      obtain ⟨v, v1, v2⟩ : ∃ v, v < u ∧ mA S0 22 (24 * b + u) = nI v := by
        obtain ⟨-, -, ⟨p1, p2, fl', p3⟩, -⟩ := X
        obtain ⟨⟨tu, ⟨-, -, -, -, -, -, -, -, -, -, w, -⟩, -⟩, -⟩ := p3 u un
        rcases w with w | w
        · rw [w] at h22; exact absurd neg1_lt h22
        · exact w
      have cv : (mA S0 22 (24 * b + u)).toNatClampNeg = v := by rw [v2, nI_clamp (by omega)]
      rw [cv] at ebl
      rw [if_pos (Int32.not_lt.mp h22), v2]
      rw [ebl] at hq hT hwd ⊢
      rw [List.length_append, List.length_singleton] at hq hT ⊢
      obtain ⟨wd1, wd2⟩ := hwd.app
      have wv := wd1 0 (by simp)
      obtain ⟨k1, rfl⟩ : ∃ k1, k = k1 + 1 := ⟨k - 1, by omega⟩
      obtain ⟨e, S', b1, b2', -⟩ := brg X hN hC s (show v < nu by omega) wv.1 wv.2 (by omega) (k := k1) (by omega) (by omega)
      rw [ck_n (show 24 * b + u < 48 by omega) (by decide), b1, bs]
      dsimp only
      by_cases e0 : e = 0
      · subst e0
        rcases b2' with ⟨-, t', M', q1, q2, q3, q4⟩ | ⟨w, -⟩ | ⟨w, -⟩
        · obtain ⟨e, S'', z1, z2⟩ := md_ok X hP hB hN hC huU hub hdb hkb hm h32 h20 (q := q + 1) (by omega) wd2 q2 (by omega)
          exact ⟨e, S'', z1, z2.pre q1 q4 (by omega)⟩
        · exact absurd w (by decide)
        · exact absurd w (by decide)
      · obtain ⟨S2, c1, c2⟩ := b51_ne (N := N) (by omega) (gT N (k1 + 1)) (u := u) (vi := 24 * b + u) (by omega) (by omega) e0 S'
        exact ⟨e, S2, c1, bo_io e0 (by omega) (b2'.r93 c2 hub)⟩
theorem stp_dr {u : Nat} (s : STP z b nd nu B0 0 M0 S0 (U ++ [u]) Mf S) : STP z b nd nu B0 0 M0 S0 U Mf (flS u 22 0 S) := by
  obtain ⟨nh, no, M2, n1, n2, d, ⟨u1, u2⟩, ⟨h1, h2, h3⟩, ⟨h4, h5, h6, h7⟩, ⟨h8, h9, h10, h11, h12⟩, h13⟩ := s
  obtain ⟨v1, v2, v3⟩ := List.nodup_append.mp u1
  obtain ⟨w1, w2⟩ := u2 u (List.mem_append_right _ (List.mem_singleton.mpr rfl))
  have nm : u ∉ U := fun w => v3 u w u (List.mem_singleton.mpr rfl) rfl
  have mem : ∀ j, j ∈ U ++ [u] ↔ j ∈ U ∨ j = u := fun j => by rw [List.mem_append, List.mem_singleton]
  have key : ∀ (j : Nat) (x y : Int32), (if j ∈ U ++ [u] then x else y) = if j ∈ U then x else if j = u then x else y := fun j x y => by
    by_cases q1 : j ∈ U
    · rw [if_pos q1, if_pos ((mem j).mpr (Or.inl q1))]
    · rw [if_neg q1]
      by_cases q2 : j = u
      · rw [if_pos q2, if_pos ((mem j).mpr (Or.inr q2))]
      · rw [if_neg q2, if_neg (fun w => ((mem j).mp w).elim q1 q2)]
  refine ⟨nh, no, wI (wI (wI M2 (z + 9) u 3) (z + 12) u 22) (z + 13) u 0, n1, n2, DD.stg w1 ⟨by rw [w2]; decide, by rw [w2]; decide⟩ (by decide) (fun w => absurd rfl w) ⟨3, by decide, rfl⟩ d, ⟨v1, fun x hx => ?_⟩, ⟨fun j => ?_, fun j => ?_, fun j => ?_⟩, ⟨fun a a1 a2 a3 a4 a5 => ?_, ?_, h6, h7⟩, ⟨h8, h9, h10, h11, h12⟩, fun w => absurd w (by decide), fun _ x hx => ?_⟩
  · obtain ⟨x1, x2⟩ := u2 x (List.mem_append_left _ hx)
    refine ⟨x1, ?_⟩
    unfold flS
    rw [mA_Ane _ _ _ (by decide), mA_Ane _ _ _ (by decide), mA_A, if_neg (show ¬ ((54 : Nat) = 54 ∧ x = u) from fun w => nm (w.2 ▸ hx))]
    exact x2
  · rw [h1, key, cI_wI_ne _ _ _ (by omega), cI_wI_ne _ _ _ (by omega), cI_w]
    simp
  · rw [h2, key, cI_wI_ne _ _ _ (by omega), cI_w, cI_wI_ne _ _ _ (show z + 12 ≠ z + 9 by omega)]
    simp
  · rw [h3, key, cI_w, cI_wI_ne _ _ _ (show z + 13 ≠ z + 12 by omega), cI_wI_ne _ _ _ (show z + 13 ≠ z + 9 by omega)]
    simp
  · rw [h4 a a1 a2 a3 a4 a5, cI_wI_ne _ _ _ a3, cI_wI_ne _ _ _ a2, cI_wI_ne _ _ _ a1]
  · rw [h5, cI_wI_ne _ _ _ (by omega), cI_wI_ne _ _ _ (by omega), cI_wI_ne _ _ _ (by omega)]
  · unfold flS
    rw [mA_Ane _ _ _ (by decide), mA_Ane _ _ _ (by decide), mA_A]
    by_cases e : x = u
    · rw [if_pos ⟨rfl, e⟩]; decide
    · rw [if_neg (show ¬ ((54 : Nat) = 54 ∧ x = u) from fun w => e w.2)]; exact h13.2 rfl x hx
theorem cu_ok (X : CDX z b st nd nu K M0 S0 mk rc cc g pi J cl) (hP : RPB z nu M0 S0) (hB : B0 + 1000000 ≤ 1000000000) (hN : 1000000 < N) (hC : CUs z b st nd nu lim B0 N K M0 S0 dm) : CUs z b st nd nu lim B0 N K M0 S0 (dm + 1) := by
  intro t h fl t0 sz ts U who M S u tu k m s hu hu0 htu hd hk hT
  have hn24 : nu ≤ 24 := X.1.2.1
  obtain ⟨b2, rc8⟩ := X.b2
  have hh := m.hh X
  obtain ⟨rm, nm⟩ := m.room hu hu0
  have w7 := wt_ge b nu S0 u
  have a54 : ∀ x, mA (pA S 54 u 1) 54 x = if x = u then 1 else mA S 54 x := fun x => by rw [mA_A]; simp
  have z54 : ∀ x, mA (pA S 54 u 1) 54 x = 0 → mA S 54 x = 0 := fun x hx => by
    rw [a54] at hx
    by_cases e : x = u
    · rw [e]; exact hu0
    · rw [if_neg e] at hx; exact hx
  have nz : mA (pA S 54 u 1) 54 u ≠ 0 := by rw [a54, if_pos rfl]; decide
  have dk := dn_lt (S := S) (S' := pA S 54 u 1) (wt b nu S0) z54 hu0 nz nu hu
  have d1 := dn_lt (S := S) (S' := pA S 54 u 1) (fun _ => 1) z54 hu0 nz nu hu
  have hg : gS nu (pA S 54 u 1) + 300 ≤ gS nu S := by
    unfold gS
    rw [mF_A]
    omega
  obtain ⟨k1, rfl⟩ : ∃ k1, k = k1 + 1 := ⟨k - 1, by omega⟩
  obtain ⟨tu', cu, u1, -, -, -, l24, u6, -, -, -, -, ⟨r0, c0, u11, u12, u13⟩, -⟩ := X.2.2.2.1 u hu
  have et : tu' = tu := by rw [htu] at u1; cases u1; rfl
  subst et
  obtain ⟨mr, mc⟩ := X.2.2.2.2.2.2.1 _ u13
  obtain ⟨-, mp, mc3⟩ := mc rfl
  obtain ⟨-, -, -, l1, -, -, -⟩ := mc3 rfl
  have l1' : (blq S0 b cl u).length + 1 ≤ c0 := l1
  have hst := X.1.1
  have c12 : cI M tu' 12 = nI (c0 - ((blq S0 b cl u).length + 1)) := by
    obtain ⟨nh', no', -, -, d, -⟩ := m
    rw [d.1.1 tu' (by unfold stA; omega)]; exact u11
  have bl25 : (blq S0 b cl u).length ≤ 25 := by
    have f1 := List.length_filter_le (fun x => decide (mA S0 21 (24 * b + x) ≠ 0)) (cl u)
    unfold blq
    split
    · exact Nat.zero_le _
    · rw [List.length_append]
      split
      · rw [List.length_nil]; omega
      · rw [List.length_singleton]; omega
  rw [c12]
  have br := en_mb X m s hu hu0 (c0 - ((blq S0 b cl u).length + 1))
  have e11 : mF S 11 = nI b := by
    obtain ⟨nh', no', -, -, d, -⟩ := m
    rw [d.1.2.2.2.2.1 11 (by unfold stF; omega)]; exact X.1.2.2.2.2.2.2.2.1
  have huU : u ∈ U ++ [u] := List.mem_append_right _ (List.mem_singleton.mpr rfl)
  obtain ⟨e, S', a1, a2⟩ := cs_ok X hP hB hN hC (k := k1) huU hu0 hd hk u13 u12 (q := c0 - ((blq S0 b cl u).length + 1)) (by omega) br (by omega)
  have hE : gT N (k1 + 1) 1 (nI u) 0 0 0 0 S = bM_comesUp_201 N (gT N k1) (nI u) e S' := by
    rw [gT_1]
    refine Eq.trans ?_ a1
    unfold fM_comesUp ecU
    rw [ck_n (show u < 24 by omega) (by decide), nI_clamp (show u < 2 ^ 31 by omega), e11, ix24, ck_n (show 24 * b + u < 48 by omega) (by decide), ck_n (show 24 * b + u < 48 by omega) (by decide), ck_n (show 24 * b + u < 48 by omega) (by decide)]
  rw [hE]
  rcases a2 with ⟨rfl, t', M', q, q1, q2, ⟨f2, qc, wq⟩, q7, qp, q4, qb, qt⟩ | ⟨rfl, t', j, M', q1, q2, f5, jh, qp, q4, qb, qt⟩ | ⟨rfl, q4, Mf, q1, q2⟩
  · obtain ⟨r1, r2, r3⟩ := rn_at X hN q2 f2 qc (by omega) wq (by decide) (by decide)
    have ma := q2.pln r2
    have pa := qp.tr r2.pr
    obtain ⟨nh', no', n1, n2, d, ⟨e11', e12, e13, -⟩, -, ⟨-, -, c3, -⟩, ⟨e4, -⟩, e5⟩ := id ma
    obtain ⟨-, x10, -, -, -, ⟨ed, x2, x3⟩, -⟩ := d.2.2.2.2.2.2.1 u (by omega)
    obtain ⟨n, y1, y2, y3, -⟩ := d.2.2.1
    have su : mA S' 54 u = 1 := (c3 u huU).2
    have n743 := d.2.2.2.1.room hn24 hu y3 y1 su x2 x3
    have dm92 : cI (wI M' (z + 38 + 2 * (h + 1)) 2 (nI (q + 1))) (z + 35) 8 = mF S' 92 := by
      rcases e5 with ⟨-, w, -⟩ | ⟨w, -⟩
      · exact w
      · exact absurd w (by decide)
    have cl' := c_leave r3 N (h := h) (by omega) e12 e13 (u := u) (n := n) (e := ed) (by omega) e4 (x10.trans x3) y2 n743
    rw [dm92] at cl'
    have db := dr_mb (v := 2) m hu hu0 ma pa (M3 := upC z n u ed (mF S' 92) (wI M' (z + 38 + 2 * (h + 1)) 2 (nI (q + 1)))) (S3 := upS n u ed (mF S' 92) S') (fun nh no d' => d'.up hu hn24 su x2 x3 y3 n743) (fun a ha => by
        unfold upC
        rw [cI_wI_ne _ _ _ (by omega), cI_wI_ne _ _ _ (by omega), cI_wI_ne _ _ _ (by omega), cI_wI_ne _ _ _ (by omega), cI_wI_ne _ _ _ (by omega)]) rfl (fun k hk => by
        unfold upS
        rw [mF_F, if_neg (by omega)]; rfl) (fun k hk => by
        unfold upS
        rw [mA_F, mA_Ane _ _ _ (by omega), mA_Ane _ _ _ (by omega), mA_Ane _ _ _ (by omega), mA_Ane _ _ _ (by omega)]) (fun x => by
        unfold upS
        rw [mA_F, mA_Ane _ _ _ (by decide), mA_Ane _ _ _ (by decide), mA_Ane _ _ _ (by decide), mA_A]; simp) ⟨by decide, by decide⟩ hn24
    obtain ⟨g1, g2, g3⟩ := db
    refine ⟨0, upS n u ed (mF S' 92) S', m_up N _ (by omega) y3 n743 x3, ⟨?_, ?_, ?_, ?_⟩, Or.inl ⟨rfl, t' + 1, _, ?_, g1.up1, ?_, ?_, g2, by omega, by omega⟩⟩
    · unfold upS; rw [mF_F, if_neg (by decide)]; exact q4.1
    · unfold upS; rw [mF_F, if_neg (by decide)]; exact q4.2.1
    · unfold upS; rw [mF_F, if_neg (by decide)]; exact q4.2.2.1
    · unfold upS; rw [mF_F, if_neg (by decide)]; exact q4.2.2.2
    · rw [q1, r1, pf20 (r3.k 35 3 0 rfl), cl', bs]
    · unfold drC upC
      rw [cI_R, cI_w, if_neg (by omega), cI_wI_ne _ _ _ (by omega), cI_wI_ne _ _ _ (by omega), cI_wI_ne _ _ _ (by omega), cI_wI_ne _ _ _ (by omega), cI_wI_ne _ _ _ (by omega), cI_wI_ne _ _ _ (by omega)]
      exact q7
    · unfold upS
      rw [mA_F, mA_Ane _ _ _ (by decide), mA_Ane _ _ _ (by decide), mA_Ane _ _ _ (by decide), mA_A, if_pos ⟨rfl, rfl⟩]
  · obtain ⟨nh', no', n1, n2, d, ⟨e11', e12, e13, -⟩, -, ⟨-, -, c3, -⟩, ⟨e4, -⟩, e5⟩ := id q2
    have su : mA S' 54 u = 1 := (c3 u huU).2
    have rd := RSE_drop (N := N) (a := mF S' 90) (c := mF S' 91) (q2.ly X) (show j < 25 by omega) (by omega) (show h + 1 < 25 by omega) (show u < 24 by omega) e12 e13 f5 e4
    have db := dr_mb (v := 3) m hu hu0 q2 qp (M3 := flC z u (fA (mF S' 90)) (fB (mF S' 90) (mF S' 91)) M') (S3 := flS u (fA (mF S' 90)) (fB (mF S' 90) (mF S' 91)) (pF (pF S' 91 (fB (mF S' 90) (mF S' 91))) 90 (fA (mF S' 90)))) (fun nh no d' => DD.stg hu ⟨by rw [mA_F, mA_F, su]; decide, by rw [mA_F, mA_F, su]; decide⟩ (by decide) (fun w => absurd rfl w) ⟨3, by decide, rfl⟩ (d'.mach (((MCH.rf z M' S').pF (by omega)).pF (by omega)))) (fun a ha => by
        unfold flC
        rw [cI_wI_ne _ _ _ (by omega), cI_wI_ne _ _ _ (by omega), cI_wI_ne _ _ _ (by omega)]) rfl (fun k hk => by
        unfold flS
        rw [mF_A, mF_A, mF_A, mF_F, if_neg (by omega), mF_F, if_neg (by omega)]) (fun k hk => by
        unfold flS
        rw [mA_Ane _ _ _ (by omega), mA_Ane _ _ _ (by omega), mA_Ane _ _ _ (by omega), mA_F, mA_F]) (fun x => by
        unfold flS
        rw [mA_Ane _ _ _ (by decide), mA_Ane _ _ _ (by decide), mA_A, mA_F, mA_F]; simp) ⟨by decide, by decide⟩ hn24
    obtain ⟨g1, g2, g3⟩ := db
    refine ⟨1, _, m_fl1 N _ (by omega), ⟨?_, ?_, ?_, ?_⟩, Or.inr (Or.inl ⟨rfl, t', j + 1, _, ?_, g1, by omega, g2, by omega, qt, ?_⟩)⟩
    · unfold flS; rw [mF_A, mF_A, mF_A, mF_F, if_neg (by decide), mF_F, if_neg (by decide)]; exact q4.1
    · unfold flS; rw [mF_A, mF_A, mF_A, mF_F, if_neg (by decide), mF_F, if_neg (by decide)]; exact q4.2.1
    · unfold flS; rw [mF_A, mF_A, mF_A, mF_F, if_neg (by decide), mF_F, if_neg (by decide)]; exact q4.2.2.1
    · unfold flS; rw [mF_A, mF_A, mF_A, mF_F, if_neg (by decide), mF_F, if_neg (by decide)]; exact q4.2.2.2
    · rw [q1, rd]
      rfl
    · unfold flS fA
      rw [mF_A, mF_A, mF_A, mF_F, if_pos rfl]
      split
      · next w => rcases w with w | w <;> rw [w] <;> decide
      · decide
  · refine ⟨2, _, m_fl2 N _ (by omega), ⟨?_, ?_, ?_, ?_⟩, Or.inr (Or.inr ⟨rfl, Mf, q1, stp_dr q2⟩)⟩
    · exact q4.1
    · exact q4.2.1
    · exact q4.2.2.1
    · exact q4.2.2.2
theorem cu_all (X : CDX z b st nd nu K M0 S0 mk rc cc g pi J cl) (hP : RPB z nu M0 S0) (hB : B0 + 1000000 ≤ 1000000000) (hN : 1000000 < N) : ∀ dm, CUs z b st nd nu lim B0 N K M0 S0 dm := by
  intro dm
  induction dm with
  | zero =>
    intro t h fl t0 sz ts U who M S u tu k m s hu hu0 htu hd hk hT
    have nz : mA (pA S 54 u 1) 54 u ≠ 0 := by rw [mA_A, if_pos ⟨rfl, rfl⟩]; decide
    have z54 : ∀ x, mA (pA S 54 u 1) 54 x = 0 → mA S 54 x = 0 := fun x hx => by
      rw [mA_A] at hx
      by_cases e : x = u
      · rw [e]; exact hu0
      · rw [if_neg (fun w => e w.2)] at hx; exact hx
    have d1 := dn_lt (S := S) (S' := pA S 54 u 1) (fun _ => 1) z54 hu0 nz nu hu
    omega
  | succ dm ih => exact cu_ok X hP hB hN ih
end CU
