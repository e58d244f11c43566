/-! runs: a run as a whole -/
def FINr (z b nd nu B0 : Nat) (clo : Int32) (M0 : Cm) (S0 : Ms) (Mf : Cm) (e : Int32) (S' : Ms) : Prop :=
  (e = 0 ∨ e = 1 ∨ e = 2) ∧ (∃ nh no, nh ≤ B0 + 1000000 ∧ no ≤ B0 + 1000000 ∧ DD z b nd nu M0 S0 nh no Mf S') ∧ (cI Mf (z + 35) 14 = (if e = 2 then 1 else 0) ∧ cI Mf (z + 35) 15 = (if e = 1 then mF S' 90 else 0) ∧ cI Mf (z + 35) 16 = (if e = 1 then mF S' 91 else 0) ∧ cI Mf (z + 35) 12 = mF S' 67) ∧ C4 clo S0 S' ∧ (e = 1 → mF S' 90 ≠ 0)
/-- ready to run -/
def RDY (z st lim : Nat) (clo : Int32) (M0 Mz : Cm) (S0 Ss : Ms) : Prop :=
  MCH z M0 Mz S0 Ss ∧ (cR Mz (z + 35) 4 = some st ∧ cI Mz (z + 35) 6 = nI 0 ∧ cI Mz (z + 35) 7 = nI 0 ∧ cI Mz (z + 35) 13 = 1 ∧ cI Mz (z + 35) 14 = 0 ∧ cI Mz (z + 35) 15 = 0 ∧ cI Mz (z + 35) 16 = 0 ∧ cI Mz (z + 35) 9 = clo) ∧
  (lim ≤ 5000 ∧ mF Ss 68 = nI lim ∧ mF Ss 67 = nI 0 ∧ cI Mz (z + 35) 10 = nI lim ∧ cI Mz (z + 35) 12 = nI 0 ∧ mF Ss 95 = nI 0 ∧ mF Ss 97 = nI 0)
section RUNS
variable {z b st nd nu nm lim nh no h fl t0 c B0 N t sz ts dm : Nat} {clo who : Int32} {U : List Nat} {K : Ka} {M0 M M1 M2 M3 M' Ms' Mb Mf : Cm} {S0 S S1 S2 S3 Sb S' Ss : Ms} {mk : List Mk} {rc cc : Nat} {g : Nat → Nat × Nat × Nat} {pi : Nat → Nat} {J : Nat → Jt} {cl : Nat → List Nat}
theorem nr_144 : ∀ n, n < 25 → ∀ r, r < 25 → (n - r) * r ≤ 144 := by decide
theorem dn_wt (b nu : Nat) (S0 S : Ms) (hn : nu ≤ 24) : dn S (wt b nu S0) nu ≤ 312 := by
  have h : ∀ n, dn S (wt b nu S0) n ≤ 7 * n + (n - kR S0 b n) * kR S0 b nu ∧ kR S0 b n ≤ n := by
    intro n
    induction n with
    | zero => exact ⟨Nat.zero_le _, Nat.le_refl _⟩
    | succ n ih =>
      obtain ⟨i1, i2⟩ := ih
      rw [dn, kR_s]
      by_cases q : mA S0 20 (24 * b + n) = 0
      · have w : wt b nu S0 n = 7 := by unfold wt; rw [if_pos q]
        rw [if_pos q, w, show n + 1 - (kR S0 b n + 1) = n - kR S0 b n by omega]
        refine ⟨?_, by omega⟩
        split <;> omega
      · have w : wt b nu S0 n = 7 + kR S0 b nu := by unfold wt; rw [if_neg q]
        rw [if_neg q, w]
        simp only [Nat.add_zero]
        rw [show n + 1 - kR S0 b n = (n - kR S0 b n) + 1 by omega, Nat.add_mul, Nat.one_mul]
        refine ⟨?_, by omega⟩
        split <;> omega
  obtain ⟨h1, h2⟩ := h nu
  have := nr_144 nu (by omega) (kR S0 b nu) (by omega)
  omega
theorem run_ok (X : CDX z b st nd nu K M0 S0 mk rc cc g pi J cl) (hP : RPB z nu M0 S0) (hB : B0 + 1000000 ≤ 1000000000) (hN : 1000000 < N) (hd : DD z b nd nu M0 S0 nh no M0 S0) (hnh : nh ≤ B0 ∧ no ≤ B0) (r : RDY z st lim clo M0 Ms' S0 Ss) {r0 c0 : Nat} (hm : pmk r0 c0 ∈ mk) (hw : who = -1 ∨ ∃ w, w < nu ∧ who = nI w) (hc : (clo = 0 ∧ cI Ms' (z + 35) 8 = mF Ss 92 ∧ ∀ u, u < 24 → mA S0 54 u ≠ 4) ∨ clo = 1) {k : Nat} (hk : dn S0 (wt b nu S0) nu ≤ k) :
    ∃ Mf e S', ((fC_X2_enter N K (z + 35) who (nI c0) Ms').bind fun o => RN N K z st 0 o) = some Mf ∧ gT N (k + 4) 3 (nI (10000 * b + r0)) who clo 0 0 Ss = some (e, S') ∧ FINr z b nd nu B0 clo M0 S0 Mf e S' := by
  have hn24 : nu ≤ 24 := X.1.2.1
  obtain ⟨b2, rc8⟩ := X.b2
  obtain ⟨mch, ⟨e4, e6, e7, e13, e14, e15, e16, e9⟩, l5, l68, l67, l10, l12, l95, l97⟩ := r
  obtain ⟨mr, mc⟩ := X.2.2.2.2.2.2.1 _ hm
  obtain ⟨-, mp, mc3⟩ := mc rfl
  obtain ⟨-, j1, j2, -⟩ := mc3 rfl
  have mp' : pi r0 = c0 := mp
  have mr' : r0 < rc := mr
  have j1' : (J r0).1 = 0 := j1
  have j2' : (J r0).2.1 = [] := j2
  have hL0 : LY z K M0 := X.1.2.2.2.2.2.2.2.2
  have d1 := hd.mach mch
  have hL : LY z K Ms' := d1.1.ly hL0
  have en := c_enter hL N (h := 0) (sz := 0) (by decide) e6 e7 who (nI c0)
  have C : ∀ a, a ≠ z + 35 → a ≠ z + 38 → cI (enC z 0 0 who (nI c0) Ms') a = cI Ms' a := fun a h2 h3 => by
    unfold enC
    rw [cI_wI_ne _ _ _ h2, cI_wI_ne _ _ _ h3, cI_wI_ne _ _ _ h3, cI_wI_ne _ _ _ h3, cI_wI_ne _ _ _ h3, cI_wI_ne _ _ _ h3, cI_R]
  have C35 : ∀ k, k ≠ 6 → cI (enC z 0 0 who (nI c0) Ms') (z + 35) k = cI Ms' (z + 35) k := fun k hk => by
    unfold enC
    rw [cI_w, if_neg (fun w => hk w.2), cI_wI_ne _ _ _ (by omega), cI_wI_ne _ _ _ (by omega), cI_wI_ne _ _ _ (by omega), cI_wI_ne _ _ _ (by omega), cI_wI_ne _ _ _ (by omega), cI_R]
  have CF : ∀ k, cI (enC z 0 0 who (nI c0) Ms') (z + 38) k = if k = 5 then 0 else if k = 4 then nI 0 else if k = 3 then 0 else if k = 2 then nI c0 else if k = 1 then who else cI Ms' (z + 38) k := fun k => by
    unfold enC
    rw [cI_wI_ne _ _ _ (by omega), cI_w, cI_w, cI_w, cI_w, cI_w, cI_R]
    simp
  have mche0 : MCH z Ms' (enC z 0 0 who (nI c0) Ms') Ss Ss := by
    unfold enC
    exact (((((((MCH.rf z Ms' Ss).wR (by decide)).wI (by omega)).wI (by omega)).wI (by omega)).wI (by omega)).wI (by omega)).wI (by omega)
  have mche : MCH z Ms' (enC z 0 0 who (nI c0) Ms') Ss (pF (pF Ss 99 (nI (10000 * b + r0))) 98 0) := (mche0.pF (by omega)).pF (by omega)
  have d2 := d1.mach mche
  have A54 : mA (pF (pF Ss 99 (nI (10000 * b + r0))) 98 0) 54 = mA S0 54 := by
    rw [mA_F, mA_F]
    exact mch.2.2.2.2.2.1 54 (by decide) (by decide) (by decide)
  have hw0 : cI (enC z 0 0 who (nI c0) Ms') (z + 38 + 2 * 0) = cI (enC z 0 0 who (nI c0) Ms') (z + 38) := rfl
  have m : MBX z b st nd nu lim B0 clo M0 S0 0 0 0 0 [] who (enC z 0 0 who (nI c0) Ms') (pF (pF Ss 99 (nI (10000 * b + r0))) 98 0) := by
    refine ⟨nh, no, by omega, by omega, d2, ⟨?_, ?_, ?_, ?_, ?_, ?_, ?_, ?_⟩, ⟨0, Nat.zero_le _, l5, ?_, ?_, ?_, ?_⟩, ⟨rfl, List.nodup_nil, fun u hu => absurd hu (List.not_mem_nil), fun i hi => by omega⟩, ⟨?_, hw, ?_, Nat.le_refl _, Nat.le_refl _⟩, ?_⟩
    · unfold enC
      rw [cR_I, cR_I, cR_I, cR_I, cR_I, cR_I, cR_w, if_neg (by omega)]; exact e4
    · unfold enC
      rw [cR_I, cR_I, cR_I, cR_I, cR_I, cR_I, cR_w, if_pos ⟨rfl, rfl⟩]
    · unfold enC
      rw [cI_w, if_pos ⟨rfl, rfl⟩]
    · rw [C35 _ (by decide)]; exact e13
    · rw [C35 _ (by decide)]; exact e14
    · rw [C35 _ (by decide)]; exact e15
    · rw [C35 _ (by decide)]; exact e16
    · rw [C35 _ (by decide)]; exact e9
    · rw [mF_F, if_neg (by decide), mF_F, if_neg (by decide)]; exact l68
    · rw [mF_F, if_neg (by decide), mF_F, if_neg (by decide)]; exact l67
    · rw [C35 _ (by decide)]; exact l10
    · rw [C35 _ (by decide)]; exact l12
    · rw [hw0, CF, if_neg (by decide), if_neg (by decide), if_neg (by decide), if_neg (by decide), if_pos rfl]
    · rw [hw0, CF, if_neg (by decide), if_pos rfl]
    · rcases hc with ⟨c1, c2, c3⟩ | c1
      · exact Or.inl ⟨c1, by rw [C35 _ (by decide), mF_F, if_neg (by decide), mF_F, if_neg (by decide)]; exact c2, fun u hu => by rw [A54]; exact c3 u hu⟩
      · exact Or.inr ⟨c1, rfl, A54⟩
  have f : FMp z b rc g pi J 0 0 0 r0 (enC z 0 0 who (nI c0) Ms') (pF (pF Ss 99 (nI (10000 * b + r0))) 98 0) := by
    refine fmp_mk mr' ⟨?_, ?_, ?_, ?_, ?_, ?_⟩ ⟨?_, ?_, fun j hj => ?_⟩
    · rw [hw0, CF, if_neg (by decide), if_neg (by decide), if_neg (by decide), if_pos rfl, mp']
    · rw [mF_F, if_neg (by decide), mF_F, if_pos rfl]
    · rw [hw0, CF, if_neg (by decide), if_neg (by decide), if_pos rfl, mF_F, if_pos rfl]
    · rw [hw0, CF, if_pos rfl, j2']; rfl
    · rw [mF_F, if_neg (by decide), mF_F, if_neg (by decide), j2']; exact l97
    · rw [j2']; trivial
    · rw [C35 _ (by decide), j1']; exact e7
    · rw [mF_F, if_neg (by decide), mF_F, if_neg (by decide), j1']; exact l95
    · rw [j1'] at hj; omega
  have rk := rk_le X mr'
  have gs : gS nu (pF (pF Ss 99 (nI (10000 * b + r0))) 98 0) ≤ 182 * 5000 + 300 * 24 := by
    unfold gS
    have x1 : mF (pF (pF Ss 99 (nI (10000 * b + r0))) 98 0) 68 = nI lim := by rw [mF_F, if_neg (by decide), mF_F, if_neg (by decide)]; exact l68
    have x2 : mF (pF (pF Ss 99 (nI (10000 * b + r0))) 98 0) 67 = nI 0 := by rw [mF_F, if_neg (by decide), mF_F, if_neg (by decide)]; exact l67
    have x3 : ∀ n, dn (pF (pF Ss 99 (nI (10000 * b + r0))) 98 0) (fun _ => 1) n ≤ n := by
      intro n
      induction n with
      | zero => exact Nat.le_refl _
      | succ n ih => rw [dn]; split <;> omega
    have := x3 nu
    rw [x1, x2, nI_clamp (show lim < 2 ^ 31 by omega), nI_clamp (by decide)]
    omega
  have dk : dn (pF (pF Ss 99 (nI (10000 * b + r0))) 98 0) (wt b nu S0) nu ≤ k := Nat.le_trans (dn_le (S := S0) (S' := pF (pF Ss 99 (nI (10000 * b + r0))) 98 0) (wt b nu S0) (fun v hv => by rw [A54] at hv; exact hv) nu) hk
  obtain ⟨e, S', w1, w2⟩ := wk_lp X hP hB hN (fun _ => cu_all X hP hB hN (dn (pF (pF Ss 99 (nI (10000 * b + r0))) 98 0) (fun _ => 1) nu)) k (mF Ss 99) (mF Ss 98) N 0 r0 _ _ (by omega) m f (fun _ => Nat.le_refl _) (fun _ => dk) (by omega)
  have hG : gT N (k + 4) 3 (nI (10000 * b + r0)) who clo 0 0 Ss = some (e, pF (pF (pF (pF S' 99 (mF Ss 99)) 98 (mF Ss 98)) 95 (nI 0)) 97 (nI 0)) := by
    rw [gT_3]
    unfold fM_works
    rw [l95, l97]
    exact w1
  have mz : ∀ M2 : Cm, MCH z M2 M2 S' (pF (pF (pF (pF S' 99 (mF Ss 99)) 98 (mF Ss 98)) 95 (nI 0)) 97 (nI 0)) := fun M2 => ((((MCH.rf z M2 S').pF (by omega)).pF (by omega)).pF (by omega)).pF (by omega)
  rw [en, bs]
  have f90 : ∀ k, k = 90 ∨ k = 91 ∨ k = 67 → mF (pF (pF (pF (pF S' 99 (mF Ss 99)) 98 (mF Ss 98)) 95 (nI 0)) 97 (nI 0)) k = mF S' k := fun k hk => by
    rw [mF_F, if_neg (by omega), mF_F, if_neg (by omega), mF_F, if_neg (by omega), mF_F, if_neg (by omega)]
  have c54 : ∀ {M2 : Cm} {t'}, MBX z b st nd nu lim B0 clo M0 S0 t' 0 0 0 [] who M2 S' → C4 clo S0 S' := fun {M2 t'} m' => by
    obtain ⟨-, -, -, -, -, -, -, -, -, e5⟩ := m'
    rcases e5 with ⟨v, -, v2⟩ | ⟨v1, -, v⟩
    · exact ⟨fun w => by rw [v] at w; exact absurd w (by decide), fun _ => v2⟩
    · exact ⟨fun _ => v, fun w => by rw [v1] at w; exact absurd w (by decide)⟩
  rcases w2 with ⟨rfl, t', M', c', y1, y2, y3, y4, y5, y6, y7⟩ | ⟨rfl, t', j, M', y1, y2, y3, y4, y5, y6, y7⟩ | ⟨rfl, Mf, y1, y2⟩
  · have pc := X.pl y3.1
    have tc := tw_pos (g c')
    obtain ⟨r1, r2, r3⟩ := rn_at X hN y2 y3.2.1 (show pi c' < cc by omega) (by omega) (w := 20) (f := 0) (s := 0) (by rw [pc.2.1]; unfold cwd; rw [y4]; rfl) (by decide) (by decide)
    have m3 := y2.pln r2
    obtain ⟨nh', no', n1, n2, dd, ⟨x1, x2, x3, x4, x5, x6, x7, x8⟩, ⟨us, -, -, -, u4, -, u6⟩, -⟩ := id m3
    have lv := c_leave0 r3 N x3
    have mf : MCH z (wI M' (z + 38 + 2 * 0) 2 (nI (pi c' + 1))) (wI (wI M' (z + 38 + 2 * 0) 2 (nI (pi c' + 1))) (z + 35) 13 0) S' S' := (MCH.rf z _ S').wI (Or.inl ⟨rfl, by decide⟩)
    refine ⟨_, 0, _, ?_, hG, Or.inl rfl, ⟨nh', no', by omega, by omega, (dd.mach mf).mach (mz _)⟩, ⟨?_, ?_, ?_, ?_⟩, ?_⟩
    · rw [y1, r1, show nI 20 = nI 20 from rfl, pf20 (r3.k 35 3 0 rfl), lv, bs]
      exact RN_end (M := wI (wI M' (z + 38 + 2 * 0) 2 (nI (pi c' + 1))) (z + 35) 13 0) r3 (by omega) (by rw [cI_w, if_pos ⟨rfl, rfl⟩])
    · rw [cI_w, if_neg (by omega), if_neg (by decide)]; exact x5
    · rw [cI_w, if_neg (by omega), if_neg (by decide)]; exact x6
    · rw [cI_w, if_neg (by omega), if_neg (by decide)]; exact x7
    · rw [cI_w, if_neg (by omega), f90 67 (by omega), u6, u4]
    · exact ⟨c54 m3, fun w => absurd w (by decide)⟩
  · obtain ⟨nh', no', n1, n2, dd, ⟨x1, x2, x3, x4, x5, x6, x7, x8⟩, ⟨us, -, -, -, u4, -, u6⟩, -⟩ := id y2
    have rt := RSE_top (N := N) (a := mF S' 90) (c := mF S' 91) (y2.ly X) (show j < 25 by omega) (by omega) (h := 0) rfl x2 x3 y3.1
    have mf : MCH z M' (wI (wI (wI M' (z + 35) 15 (mF S' 90)) (z + 35) 16 (mF S' 91)) (z + 35) 13 0) S' S' := (((MCH.rf z M' S').wI (Or.inl ⟨rfl, by decide⟩)).wI (Or.inl ⟨rfl, by decide⟩)).wI (Or.inl ⟨rfl, by decide⟩)
    have hL' := y2.ly X
    refine ⟨_, 1, _, ?_, hG, Or.inr (Or.inl rfl), ⟨nh', no', by omega, by omega, (dd.mach mf).mach (mz _)⟩, ⟨?_, ?_, ?_, ?_⟩, ?_⟩
    · rw [y1, rt, bs]
      exact RN_end (show LY z K (wI (wI (wI M' (z + 35) 15 (mF S' 90)) (z + 35) 16 (mF S' 91)) (z + 35) 13 0) from hL') (by omega) (by rw [cI_w, if_pos ⟨rfl, rfl⟩])
    · rw [cI_w, if_neg (by omega), cI_w, if_neg (by omega), cI_w, if_neg (by omega), if_neg (by decide)]; exact x5
    · rw [cI_w, if_neg (by omega), cI_w, if_neg (by omega), cI_w, if_pos ⟨rfl, rfl⟩, if_pos rfl, f90 90 (by omega)]
    · rw [cI_w, if_neg (by omega), cI_w, if_pos ⟨rfl, rfl⟩, if_pos rfl, f90 91 (by omega)]
    · rw [cI_w, if_neg (by omega), cI_w, if_neg (by omega), cI_w, if_neg (by omega), f90 67 (by omega), u6, u4]
    · exact ⟨c54 y2, fun _ => by rw [f90 90 (by omega)]; exact y3.2.2.2.2⟩
  · obtain ⟨nh', no', M2, n1, n2, dd, -, ⟨h1, h2, h3⟩, ⟨h4, h5, h6, h7⟩, ⟨h8, h9, h10, h11, h12⟩, h13⟩ := y2
    have mf : MCH z M2 Mf S' S' := by
      refine ⟨fun a a1 a2 => ?_, h5, h6, h7, fun _ _ => rfl, fun _ _ _ _ => rfl, rfl⟩
      by_cases q9 : a = z + 9
      · subst q9; funext j; rw [h1, if_neg (List.not_mem_nil)]
      · by_cases q12 : a = z + 12
        · subst q12; funext j; rw [h2, if_neg (List.not_mem_nil)]
        · by_cases q13 : a = z + 13
          · subst q13; funext j; rw [h3, if_neg (List.not_mem_nil)]
          · exact h4 a q9 q12 q13 a1 a2
    refine ⟨Mf, 2, _, y1, hG, Or.inr (Or.inr rfl), ⟨nh', no', n1, n2, (dd.mach mf).mach (mz _)⟩, ⟨?_, ?_, ?_, ?_⟩, h13, fun w => absurd w (by decide)⟩
    · rw [if_pos rfl]; exact h9
    · rw [if_neg (by decide)]; exact h10
    · rw [if_neg (by decide)]; exact h11
    · rw [f90 67 (by omega)]; exact h12
end RUNS
