/-! heal -/
theorem fill8 (N : Nat) {K : Ka} {a len lo hi : Nat} (v : Int32) (hk : kd K a = 22) (hl : le K a = len) (hlen : len < 2 ^ 31) (hhi : hi ≤ len) : ∀ (n i : Nat) (M : Cm), i ≤ hi → hi < n + i → ∃ M', lC_J7_fill_fda19_10 N K (bC_J7_fill_fda19_27 N K) n a (nI hi) v (nI i) M = some M' ∧ (∀ b, b ≠ a → cI M' b = cI M b) ∧ cL M' = cL M ∧ cR M' = cR M ∧ ∀ j, cI M' a j = if i ≤ j ∧ j < hi then v else cI M a j := by
  intro n
  induction n with
  | zero => intro i M hi hn; omega
  | succ n ih =>
    intro i M h1 h2
    rw [lC_J7_fill_fda19_10]
    by_cases e : i = hi
    · subst e
      rw [if_pos (nI_le (Nat.le_refl _) (by omega))]
      refine ⟨M, rfl, fun _ _ => rfl, rfl, rfl, fun j => ?_⟩
      rw [if_neg (by omega)]
    · rw [if_neg (nI_ge (show i < hi by omega) (by omega)), gd_k hk, hl, ck_n (show i < len by omega) hlen, nI_clamp (by omega), nI_1]
      obtain ⟨M', e1, e2, e3, e4, e5⟩ := ih (i + 1) (wI M a i v) (by omega) (by omega)
      refine ⟨M', e1, fun b hb => (e2 b hb).trans (cI_wI_ne _ _ _ hb), e3, e4, fun j => ?_⟩
      rw [e5 j, cI_w]
      by_cases ej : j = i
      · subst ej
        rw [if_neg (by omega), if_pos ⟨rfl, rfl⟩, if_pos (by omega)]
      · rw [if_neg (show ¬ (a = a ∧ j = i) from fun q => ej q.2)]
        by_cases hj : i + 1 ≤ j ∧ j < hi
        · rw [if_pos hj, if_pos (by omega)]
        · rw [if_neg hj, if_neg (by omega)]
theorem m_fill8 (N : Nat) {u : Nat} (hu : u < 24) : ∀ (n i : Nat) (S : Ms), i ≤ 8 → 8 < n + i → ∃ S', (∀ (k194 : Int32 → Int32 → Int32 → Ms → Option (Int32 × Ms)) (x1 x3 : Int32), lM_heal_167 N k194 n x1 x3 (nI u) (nI i) S = k194 x1 x3 (nI u) S') ∧ AgS (fun _ => True) (fun k => k ≠ 56) S S' ∧ ∀ j, mA S' 56 j = if 8 * u + i ≤ j ∧ j < 8 * u + 8 then 0 else mA S 56 j := by
  intro n
  induction n with
  | zero => intro i S hi hn; omega
  | succ n ih =>
    intro i S h1 h2
    by_cases e : i = 8
    · subst e
      refine ⟨S, fun k194 x1 x3 => by rw [lM_heal_167, if_pos (show (8 : Int32) ≤ nI 8 by decide)], ⟨fun _ _ => rfl, fun _ _ => rfl, fun _ _ => rfl⟩, fun j => ?_⟩
      rw [if_neg (by omega)]
    · obtain ⟨S', e1, e2, e3⟩ := ih (i + 1) (pA S 56 (8 * u + i) 0) (by omega) (by omega)
      refine ⟨S', fun k194 x1 x3 => by rw [lM_heal_167, if_neg (show ¬ (8 : Int32) ≤ nI i from nI_ge (b := 8) (by omega) (by decide)), ix8, ck_n (show 8 * u + i < 192 by omega) (by decide), nI_clamp (by omega), nI_1, e1], ⟨fun k hk => by rw [e2.1 k hk, mF_A], fun k hk => by rw [e2.2.1 k hk, mA_Ane _ _ _ hk], fun k hk => by rw [e2.2.2 k hk, mL_A]⟩, fun j => ?_⟩
      rw [e3 j, mA_A]
      by_cases ej : j = 8 * u + i
      · subst ej
        rw [if_neg (by omega), if_pos ⟨rfl, rfl⟩, if_pos (by omega)]
      · rw [if_neg (show ¬ (56 = 56 ∧ j = 8 * u + i) from fun q => ej q.2)]
        by_cases hj : 8 * u + (i + 1) ≤ j ∧ j < 8 * u + 8
        · rw [if_pos hj, if_pos (by omega)]
        · rw [if_neg hj, if_neg (by omega)]
section HEAL
variable {z : Nat} {K : Ka} {M : Cm} {S : Ms} {b st nd nu nm : Nat}
/-- the units that are healed with v -/
def hwi (S : Ms) (b u v : Nat) : Prop := u = v ∨ mA S 34 (24 * (24 * b + u) + v) = 1
theorem c_hw (h : RelP z K M S b st nd nu nm) (N : Nat) {u v : Nat} (hu : u < nu) (hv : v < nu) : (hwi S b u v ∧ fC_X8_isHealedWith N K z (nI u) (nI v) M = some (1, M)) ∨ (¬ hwi S b u v ∧ fC_X8_isHealedWith N K z (nI u) (nI v) M = some (0, M)) := by
  obtain ⟨hLY, -, -, -, -, -, -, -, -, -, -, -, hSA, -, hSU, -⟩ := h
  obtain ⟨hb, hn, s3, -, s5, -, hnu, -, -, -, -, hsu, -⟩ := hSA
  obtain ⟨a4, a5, a6, -, -, q6, -, qq⟩ := hSU
  obtain ⟨p1, p2⟩ := qq u v hu hv
  obtain ⟨r1, r2, r3, r4, r5, r6⟩ := q6
  unfold fC_X8_isHealedWith bC_X8_isHealedWith_17 bC_X8_isHealedWith_22 hwi
  by_cases e : u = v
  · left
    exact ⟨Or.inl e, by rw [if_pos (by rw [e])]; rfl⟩
  · rw [if_neg (fun q => e ((nI_eq (by omega) (by omega)).mp q)), gd_k hLY.k9, nn_s s3, gd_k s5]
    unfold fC_X5_leaning bC_X5_leaning_19
    rw [gd_k s5, nn_s r1, gd_k r4, ck_n (show u < le K a6 by omega) r6, nI_clamp (show u < 2 ^ 31 by omega), p1]
    rcases p2 with p2 | p2
    · right
      refine ⟨fun q => ?_, ?_⟩
      · rcases q with q | q
        · exact e q
        · rw [p2] at q; exact absurd q (by decide)
      · rw [p2, if_neg (by decide)]; rfl
    · left
      refine ⟨Or.inr p2, ?_⟩
      rw [p2, if_pos rfl]; rfl
theorem m_ln (h : RelP z K M S b st nd nu nm) (N : Nat) {u v : Nat} (hu : u < nu) (hv : v < nu) : fM_lean N (nI u) (nI v) S = some (mA S 34 (24 * (24 * b + u) + v), S) := by
  obtain ⟨hLY, -, -, -, -, -, -, -, -, -, -, -, hSA, -, hSU, -⟩ := h
  obtain ⟨hb, hn, s3, -, s5, -, hnu, -, -, -, -, hsu, -⟩ := hSA
  obtain ⟨a4, a5, a6, -, -, q6, -, qq⟩ := hSU
  obtain ⟨p1, p2⟩ := qq u v hu hv
  unfold fM_lean
  rw [hn, ix24, ix24, ck_n (show 24 * (24 * b + u) + v < 1152 by omega) (by decide), nI_clamp (show 24 * (24 * b + u) + v < 2 ^ 31 by omega), gd_01 p2]
/-- the first walk: is there one that can't be renewed -/
theorem hl_1 (h : RelP z K M S b st nd nu nm) (N : Nat) (k80 : Int32 → Int32 → Ms → Option (Int32 × Ms)) {v : Nat} : ∀ (n i : Nat), i ≤ nu → nu < n + i → lM_heal_26 N k80 n (nI v) 1 (nI i) S = k80 (nI v) 1 S := by
  obtain ⟨hLY, -, -, -, -, -, -, -, -, -, -, -, hSA, -, hSU, -⟩ := h
  obtain ⟨hb, hn, s3, -, s5, -, hnu, -, -, -, -, hsu, -⟩ := hSA
  intro n
  induction n with
  | zero => intro i hi hn; omega
  | succ n ih =>
    intro i h1 h2
    rw [lM_heal_26, hn, ck_n (show b < 2 by omega) (by decide), nI_clamp (by omega), hsu]
    by_cases hi : i < nu
    · rw [if_neg (nI_ge hi (by omega)), if_neg (show ¬ (1 : Int32) = 0 by decide)]
      unfold bM_heal_68 bM_heal_73
      rw [nI_1]
      exact ih (i + 1) (by omega) (by omega)
    · rw [if_pos (nI_le (by omega) (by omega))]
theorem hl_2 (h : RelP z K M S b st nd nu nm) (N : Nat) (k80 : Int32 → Int32 → Ms → Option (Int32 × Ms)) (k61 : Nat → Int32 → Cm → Option (Int32 × Cm)) {v : Nat} (hv : v < nu) : ∀ (n i : Nat), i ≤ nu → nu < n + i →
    (lC_X8_heal_19 N K (bC_X8_heal_53 N K) k61 n z (nI v) (nI i) M = some (-1, M) ∧ lM_heal_26 N k80 n (nI v) 0 (nI i) S = k80 (nI v) 1 S) ∨
    (lC_X8_heal_19 N K (bC_X8_heal_53 N K) k61 n z (nI v) (nI i) M = k61 z (nI v) M ∧ lM_heal_26 N k80 n (nI v) 0 (nI i) S = k80 (nI v) 0 S ∧ ∀ u, i ≤ u → u < nu → hwi S b u v → ∃ e, e < 30 ∧ mA S 55 u = nI e) := by
  have hh := h
  obtain ⟨hLY, -, -, -, -, -, -, -, -, -, hRE, -, hSA, -, hSU, -⟩ := h
  obtain ⟨hb, hn, s3, -, s5, -, hnu, -, -, -, s11, hsu, -⟩ := hSA
  intro n
  induction n with
  | zero => intro i hi hn; omega
  | succ n ih =>
    intro i h1 h2
    rw [lC_X8_heal_19, lM_heal_26, gd_k hLY.k9, nn_s s3, gd_k s5, s11, hn, ck_n (show b < 2 by omega) (by decide), nI_clamp (show b < 2 ^ 31 by omega), hsu]
    by_cases hi : i < nu
    · rw [if_neg (nI_ge hi (by omega)), if_neg (nI_ge hi (by omega)), if_pos rfl]
      obtain ⟨-, d2, -, -, -, ⟨e, e1, e2⟩, -⟩ := hRE i (by omega)
      have ih' := ih (i + 1) (by omega) (by omega)
      have l10 := hLY.l 10 22 24 rfl (by decide)
      have yes : hwi S b i v → fC_X8_isHealedWith N K z (nI i) (nI v) M = some (1, M) → ((if nI i = nI v then ((bM_heal_57 N (lM_heal_26 N k80 n) k80) (nI v) (nI i) S) else ((fM_lean N (nI i) (nI v) S).bind fun o51 => if o51.1 = 0 then ((bM_heal_72 N (lM_heal_26 N k80 n) k80) (nI v) (nI i) o51.2) else ((bM_heal_57 N (lM_heal_26 N k80 n) k80) (nI v) (nI i) o51.2))) = bM_heal_57 N (lM_heal_26 N k80 n) k80 (nI v) (nI i) S) := fun q _ => by
        by_cases ev : i = v
        · rw [if_pos (by rw [ev])]
        · rw [if_neg (fun q => ev ((nI_eq (by omega) (by omega)).mp q)), m_ln hh N hi hv, bs]
          dsimp only
          rcases q with q | q
          · exact absurd q ev
          · rw [q, if_neg (by decide)]
      rcases c_hw hh N hi hv with ⟨c1, c2⟩ | ⟨c1, c2⟩
      · rw [yes c1 c2, c2, bs]
        dsimp only
        rw [if_neg (show ¬ (1 : Int32) = 0 by decide), nn_s (hLY.r0 2 8 (by decide)), gd_k (hLY.k 8 5 0 rfl), nn_s (hLY.r 8 1 10 (by decide)), gd_k (hLY.k 10 22 24 rfl), l10, ck_n (show i < 24 by omega) (by decide), nI_clamp (by omega), d2, e2]
        unfold bC_X8_heal_55 bM_heal_57 bM_heal_68 bM_heal_72 bM_heal_73
        rw [ck_n (show i < 24 by omega) (by decide), nI_clamp (by omega), e2, nI_1]
        by_cases e30 : e < 30
        · rw [if_pos (show nI e < 30 from nI_lt (b := 30) e30 (by decide)), if_neg (show ¬ nI e = 30 from fun q => by have := (nI_eq (b := 30) (by omega) (by decide)).mp q; omega)]
          rcases ih' with ⟨i1, i2⟩ | ⟨i1, i2, i3⟩
          · exact Or.inl ⟨i1, i2⟩
          · refine Or.inr ⟨i1, i2, fun u hu1 hu2 hu3 => ?_⟩
            by_cases eu : u = i
            · subst eu; exact ⟨e, e30, e2⟩
            · exact i3 u (by omega) hu2 hu3
        · have e' : e = 30 := by omega
          subst e'
          rw [if_neg (by decide), if_pos (show nI 30 = 30 from rfl)]
          exact Or.inl ⟨rfl, hl_1 hh N k80 n (i + 1) (by omega) (by omega)⟩
      · have no : ((if nI i = nI v then ((bM_heal_57 N (lM_heal_26 N k80 n) k80) (nI v) (nI i) S) else ((fM_lean N (nI i) (nI v) S).bind fun o51 => if o51.1 = 0 then ((bM_heal_72 N (lM_heal_26 N k80 n) k80) (nI v) (nI i) o51.2) else ((bM_heal_57 N (lM_heal_26 N k80 n) k80) (nI v) (nI i) o51.2))) = lM_heal_26 N k80 n (nI v) 0 (nI (i + 1)) S) := by
          obtain ⟨a4, a5, a6, -, -, q6, -, qq⟩ := hSU
          obtain ⟨-, p2⟩ := qq i v hi hv
          rw [if_neg (fun q => c1 (Or.inl ((nI_eq (by omega) (by omega)).mp q))), m_ln hh N hi hv, bs]
          dsimp only
          rw [if_pos (p2.resolve_right (fun q => c1 (Or.inr q)))]
          unfold bM_heal_72 bM_heal_73
          rw [nI_1]
        rw [no, c2, bs]
        dsimp only
        rw [if_pos rfl]
        unfold bC_X8_heal_55
        rw [nI_1]
        rcases ih' with ⟨i1, i2⟩ | ⟨i1, i2, i3⟩
        · exact Or.inl ⟨i1, i2⟩
        · refine Or.inr ⟨i1, i2, fun u hu1 hu2 hu3 => ?_⟩
          by_cases eu : u = i
          · subst eu; exact absurd hu3 c1
          · exact i3 u (by omega) hu2 hu3
    · rw [if_pos (nI_le (by omega) (by omega)), if_pos (nI_le (by omega) (by omega))]
      exact Or.inr ⟨rfl, rfl, fun u hu1 hu2 => by omega⟩
/-- one unit renewed -/
def RNF (z u e : Nat) (M M1 : Cm) (S S1 : Ms) : Prop := AgM (fun a => z + 89 ≤ a) M M1 ∧ AgS (fun k => k = 64 ∨ k = 65 ∨ k = 75 ∨ k = 79 ∨ k = 84 ∨ k = 87) (fun k => (13 ≤ k ∧ k ≤ 42) ∨ k = 59 ∨ k = 72 ∨ k = 73) S S1 ∧ (∀ j, j ≠ u → mA S1 54 j = mA S 54 j ∧ mA S1 55 j = mA S 55 j ∧ mA S1 60 j = mA S 60 j) ∧ mA S1 55 u = nI (e + 1) ∧ mA S1 54 u = 0 ∧ mA S1 60 u = 0
/-- some units from i on renewed -/
def HLF (z i : Nat) (M M' : Cm) (S S' : Ms) : Prop := AgM (fun a => z + 89 ≤ a) M M' ∧ AgS (fun k => k = 64 ∨ k = 65 ∨ k = 75 ∨ k = 79 ∨ k = 84 ∨ k = 87) (fun k => (13 ≤ k ∧ k ≤ 42) ∨ k = 59 ∨ k = 72 ∨ k = 73) S S' ∧ ∀ u, (mA S' 54 u = mA S 54 u ∧ mA S' 55 u = mA S 55 u ∧ mA S' 60 u = mA S 60 u) ∨ (i ≤ u ∧ ∃ e, e < 30 ∧ mA S 55 u = nI e ∧ mA S' 55 u = nI (e + 1) ∧ mA S' 54 u = 0 ∧ mA S' 60 u = 0)
theorem HLF.rf (z i : Nat) (M : Cm) (S : Ms) : HLF z i M M S S := ⟨⟨fun _ _ => rfl, fun _ _ => rfl, rfl⟩, ⟨fun _ _ => rfl, fun _ _ => rfl, fun _ _ => rfl⟩, fun _ => Or.inl ⟨rfl, rfl, rfl⟩⟩
theorem HLF.mono {z i : Nat} {M M' : Cm} {S S' : Ms} (h : HLF z (i + 1) M M' S S') : HLF z i M M' S S' := ⟨h.1, h.2.1, fun u => (h.2.2 u).elim Or.inl (fun q => Or.inr ⟨by omega, q.2⟩)⟩
theorem HLF.thr {z i : Nat} {M M' : Cm} {S S' : Ms} {v : Int32} (h : HLF z i M M' (pF S 0 v) S') : HLF z i M M' S S' := ⟨h.1, ⟨fun k hk => by rw [h.2.1.1 k hk, mF_F, if_neg (by omega)], h.2.1.2.1, h.2.1.2.2⟩, h.2.2⟩
theorem RNF.step {z i e : Nat} {M M1 M' : Cm} {S S1 S' : Ms} (h : RNF z i e M M1 S S1) (he : e < 30) (hs : mA S 55 i = nI e) (q : HLF z (i + 1) M1 M' S1 S') : HLF z i M M' S S' := by
  obtain ⟨h1, h2, h3, h4, h5, h6⟩ := h
  obtain ⟨q1, q2, q3⟩ := q
  refine ⟨⟨fun a ha => (q1.1 a ha).trans (h1.1 a ha), fun a ha => (q1.2.1 a ha).trans (h1.2.1 a ha), q1.2.2.trans h1.2.2⟩, ⟨fun k hk => (q2.1 k hk).trans (h2.1 k hk), fun k hk => (q2.2.1 k hk).trans (h2.2.1 k hk), fun k hk => (q2.2.2 k hk).trans (h2.2.2 k hk)⟩, fun u => ?_⟩
  by_cases eu : u = i
  · subst eu
    rcases q3 u with ⟨w1, w2, w3⟩ | ⟨w, -⟩
    · exact Or.inr ⟨Nat.le_refl _, e, he, hs, w2.trans h4, w1.trans h5, w3.trans h6⟩
    · omega
  · obtain ⟨x1, x2, x3⟩ := h3 u eu
    rcases q3 u with ⟨w1, w2, w3⟩ | ⟨w, e', w1, w2, w3⟩
    · exact Or.inl ⟨w1.trans x1, w2.trans x2, w3.trans x3⟩
    · exact Or.inr ⟨by omega, e', w1, x2.symm.trans w2, w3⟩
/-- one unit renewed -/
theorem rn_step (h : RelP z K M S b st nd nu nm) (N : Nat) (hN : 192 < N) {u e : Nat} (hu : u < nu) (he : e < 30) (hed : mA S 55 u = nI e) : ∃ M1 S1, fC_X4_renew N K (z + 8) (nI u) M = some M1 ∧ (∀ r91 k203 x1 x3, bM_heal_121 N r91 k203 x1 x3 (nI u) S = bM_heal_194 N r91 k203 x1 x3 (nI u) S1) ∧ RelP z K M1 S1 b st nd nu nm ∧ mA S1 34 = mA S 34 ∧ (∀ u', u' ≠ u → mA S1 55 u' = mA S 55 u') ∧ RNF z u e M M1 S S1 := by
  have hnu : nu ≤ 24 := h.2.2.2.2.2.2.2.2.2.2.2.2.1.2.2.2.2.2.2.1
  obtain ⟨h1, h2, h3, h4, h5, h6, h7, h8, h9, h10, h11, h12, h13, h14, h15, h16, h17, h18⟩ := h
  have hu24 : u < 24 := by omega
  have cu : (nI u).toNatClampNeg = u := nI_clamp (by omega)
  have e10 : cI M (z + 10) u = nI e := (h11 u hu24).2.1.trans hed
  obtain ⟨M1, f1, f2, f3, f4, f5⟩ := fill8 N (K := K) (a := z + 11) (len := 192) (lo := 8 * u) (hi := 8 * u + 8) 0 (h1.k 11 22 192 rfl) (h1.l 11 22 192 rfl (by decide)) (by decide) (by omega) N (8 * u) (wI (wI (wI (wI (wI M (z + 9) u 0) (z + 10) u (nI (e + 1))) (z + 12) u 0) (z + 13) u 0) (z + 15) u 0) (by omega) (by omega)
  have hM : AgM (fun a => a ≠ z + 9 ∧ a ≠ z + 10 ∧ a ≠ z + 11 ∧ a ≠ z + 12 ∧ a ≠ z + 13 ∧ a ≠ z + 15) M M1 := ⟨fun a ha => by rw [f2 a ha.2.2.1, cI_wI_ne _ _ _ ha.2.2.2.2.2, cI_wI_ne _ _ _ ha.2.2.2.2.1, cI_wI_ne _ _ _ ha.2.2.2.1, cI_wI_ne _ _ _ ha.2.1, cI_wI_ne _ _ _ ha.1], fun a _ => by rw [f3]; rfl, f4⟩
  have r9 : ∀ j, cI M1 (z + 9) j = if j = u then 0 else cI M (z + 9) j := fun j => by
    rw [f2 _ (by omega), cI_wI_ne _ _ _ (show z + 9 ≠ z + 15 by omega), cI_wI_ne _ _ _ (show z + 9 ≠ z + 13 by omega), cI_wI_ne _ _ _ (show z + 9 ≠ z + 12 by omega), cI_wI_ne _ _ _ (show z + 9 ≠ z + 10 by omega), cI_w]
    simp
  have r10 : ∀ j, cI M1 (z + 10) j = if j = u then nI (e + 1) else cI M (z + 10) j := fun j => by
    rw [f2 _ (by omega), cI_wI_ne _ _ _ (show z + 10 ≠ z + 15 by omega), cI_wI_ne _ _ _ (show z + 10 ≠ z + 13 by omega), cI_wI_ne _ _ _ (show z + 10 ≠ z + 12 by omega), cI_w, cI_wI_ne _ _ _ (show z + 10 ≠ z + 9 by omega)]
    simp
  have r12 : ∀ j, cI M1 (z + 12) j = if j = u then 0 else cI M (z + 12) j := fun j => by
    rw [f2 _ (by omega), cI_wI_ne _ _ _ (show z + 12 ≠ z + 15 by omega), cI_wI_ne _ _ _ (show z + 12 ≠ z + 13 by omega), cI_w, cI_wI_ne _ _ _ (show z + 12 ≠ z + 10 by omega), cI_wI_ne _ _ _ (show z + 12 ≠ z + 9 by omega)]
    simp
  have r13 : ∀ j, cI M1 (z + 13) j = if j = u then 0 else cI M (z + 13) j := fun j => by
    rw [f2 _ (by omega), cI_wI_ne _ _ _ (show z + 13 ≠ z + 15 by omega), cI_w, cI_wI_ne _ _ _ (show z + 13 ≠ z + 12 by omega), cI_wI_ne _ _ _ (show z + 13 ≠ z + 10 by omega), cI_wI_ne _ _ _ (show z + 13 ≠ z + 9 by omega)]
    simp
  have r15 : ∀ j, cI M1 (z + 15) j = if j = u then 0 else cI M (z + 15) j := fun j => by
    rw [f2 _ (by omega), cI_w, cI_wI_ne _ _ _ (show z + 15 ≠ z + 13 by omega), cI_wI_ne _ _ _ (show z + 15 ≠ z + 12 by omega), cI_wI_ne _ _ _ (show z + 15 ≠ z + 10 by omega), cI_wI_ne _ _ _ (show z + 15 ≠ z + 9 by omega)]
    simp
  have r11 : ∀ j, cI M1 (z + 11) j = if 8 * u ≤ j ∧ j < 8 * u + 8 then 0 else cI M (z + 11) j := fun j => by
    rw [f5 j, cI_wI_ne _ _ _ (show z + 11 ≠ z + 15 by omega), cI_wI_ne _ _ _ (show z + 11 ≠ z + 13 by omega), cI_wI_ne _ _ _ (show z + 11 ≠ z + 12 by omega), cI_wI_ne _ _ _ (show z + 11 ≠ z + 10 by omega), cI_wI_ne _ _ _ (show z + 11 ≠ z + 9 by omega)]
  obtain ⟨S1, t1, t2, t3⟩ : ∃ S1, (∀ r91 k203 x1 x3, bM_heal_121 N r91 k203 x1 x3 (nI u) S = bM_heal_194 N r91 k203 x1 x3 (nI u) S1) ∧ AgS (fun _ => True) (fun k => k ≠ 56) (pA (pA (pA (pA (pA S 55 u (nI (e + 1))) 54 u 0) 57 u 0) 58 u 0) 60 u 0) S1 ∧ ∀ j, mA S1 56 j = if 8 * u ≤ j ∧ j < 8 * u + 8 then 0 else mA S 56 j := by
    obtain ⟨S1, t1, t2, t3⟩ := m_fill8 N hu24 N 0 (pA (pA (pA (pA (pA S 55 u (nI (e + 1))) 54 u 0) 57 u 0) 58 u 0) 60 u 0) (by omega) (by omega)
    refine ⟨S1, fun r91 k203 x1 x3 => ?_, t2, t3⟩
    unfold bM_heal_121
    rw [cu, hed, nI_1, ck_n hu24 (by decide), ck_n hu24 (by decide), ck_n hu24 (by decide), ck_n hu24 (by decide), ck_n hu24 (by decide), ck_n hu24 (by decide)]
    exact t1 _ _ _
  have hS : AgS (fun _ => True) (fun k => k ≠ 54 ∧ k ≠ 55 ∧ k ≠ 56 ∧ k ≠ 57 ∧ k ≠ 58 ∧ k ≠ 60) S S1 := ⟨fun k hk => by rw [t2.1 k hk]; rfl, fun k hk => by rw [t2.2.1 k hk.2.2.1, mA_Ane _ _ _ hk.2.2.2.2.2, mA_Ane _ _ _ hk.2.2.2.2.1, mA_Ane _ _ _ hk.2.2.2.1, mA_Ane _ _ _ hk.1, mA_Ane _ _ _ hk.2.1], fun k hk => by rw [t2.2.2 k hk.2.2.1]; rfl⟩
  have s54 : ∀ j, mA S1 54 j = if j = u then 0 else mA S 54 j := fun j => by
    rw [t2.2.1 54 (by decide), mA_Ane _ _ _ (by decide), mA_Ane _ _ _ (by decide), mA_Ane _ _ _ (by decide), mA_A, mA_Ane _ _ _ (by decide)]
    simp
  have s55 : ∀ j, mA S1 55 j = if j = u then nI (e + 1) else mA S 55 j := fun j => by
    rw [t2.2.1 55 (by decide), mA_Ane _ _ _ (by decide), mA_Ane _ _ _ (by decide), mA_Ane _ _ _ (by decide), mA_Ane _ _ _ (by decide), mA_A]
    simp
  have s57 : ∀ j, mA S1 57 j = if j = u then 0 else mA S 57 j := fun j => by
    rw [t2.2.1 57 (by decide), mA_Ane _ _ _ (by decide), mA_Ane _ _ _ (by decide), mA_A, mA_Ane _ _ _ (by decide), mA_Ane _ _ _ (by decide)]
    simp
  have s58 : ∀ j, mA S1 58 j = if j = u then 0 else mA S 58 j := fun j => by
    rw [t2.2.1 58 (by decide), mA_Ane _ _ _ (by decide), mA_A, mA_Ane _ _ _ (by decide), mA_Ane _ _ _ (by decide), mA_Ane _ _ _ (by decide)]
    simp
  have s60 : ∀ j, mA S1 60 j = if j = u then 0 else mA S 60 j := fun j => by
    rw [t2.2.1 60 (by decide), mA_A, mA_Ane _ _ _ (by decide), mA_Ane _ _ _ (by decide), mA_Ane _ _ _ (by decide), mA_Ane _ _ _ (by decide)]
    simp
  refine ⟨M1, S1, ?_, t1, ?_, hS.2.1 34 (by decide), fun u' hu' => by rw [s55, if_neg hu'], ⟨⟨fun a ha => hM.1 a (by omega), fun a ha => hM.2.1 a (by omega), hM.2.2⟩, ⟨fun k _ => hS.1 k trivial, fun k hk => hS.2.1 k (by omega), fun k hk => hS.2.2 k (by omega)⟩, fun j hj => by rw [s54, s55, s60, if_neg hj, if_neg hj, if_neg hj]; exact ⟨rfl, rfl, rfl⟩, by rw [s55, if_pos rfl], by rw [s54, if_pos rfl], by rw [s60, if_pos rfl]⟩⟩
  · unfold fC_X4_renew fC_J7_fill_fda19 fC_J7_rangeCheck_23922
    rw [gd_k (h1.k 8 5 0 rfl), nn_s (h1.r 8 0 9 (by decide)), gd_k (h1.k 9 22 24 rfl), h1.l 9 22 24 rfl (by decide), ck_n hu24 (by decide), cR_I, nn_s (h1.r 8 1 10 (by decide)), gd_k (h1.k 10 22 24 rfl), h1.l 10 22 24 rfl (by decide), ck_n hu24 (by decide), ck_n hu24 (by decide), cR_I, cR_I, nn_s (h1.r 8 3 12 (by decide)), gd_k (h1.k 12 22 24 rfl), h1.l 12 22 24 rfl (by decide), ck_n hu24 (by decide), cR_I, cR_I, cR_I, nn_s (h1.r 8 4 13 (by decide)), gd_k (h1.k 13 22 24 rfl), h1.l 13 22 24 rfl (by decide), ck_n hu24 (by decide), cR_I, cR_I, cR_I, cR_I, nn_s (h1.r 8 6 15 (by decide)), gd_k (h1.k 15 22 24 rfl), h1.l 15 22 24 rfl (by decide), ck_n hu24 (by decide), cR_I, cR_I, cR_I, cR_I, cR_I, nn_s (h1.r 8 2 11 (by decide)), gd_k (h1.k 11 22 192 rfl), h1.l 11 22 192 rfl (by decide), cu, cI_wI_ne _ _ _ (show z + 10 ≠ z + 9 by omega), e10, nI_1, nI_1]
    have e8 : nI u * (8 : Int32) = nI (8 * u) := by rw [show (8 : Int32) = nI 8 from rfl, nI_mul, Nat.mul_comm]
    have e9 : (nI u + 1) * (8 : Int32) = nI (8 * u + 8) := by rw [nI_1, show (8 : Int32) = nI 8 from rfl, nI_mul]; congr 1; omega
    have e9' : nI (u + 1) * (8 : Int32) = nI (8 * u + 8) := by rw [← nI_1]; exact e9
    rw [e8, e9', if_pos (nI_le (by omega) (by omega)), if_pos (show (0 : Int32) ≤ nI (8 * u) from nI_le (a := 0) (by omega) (by omega)), if_pos (nI_le (by omega) (by omega)), bs, f1]
    rfl
  · refine ⟨h1.sb hM, h2.sb hM hS (by omega) (by decide), h3.sb hM hS (by omega) (by decide) (by decide), h4.sb hM hS (by omega) (by decide), h5.sb hM hS (by omega) (by decide) (by decide), h6.sb hM hS (by omega) (by decide) (by decide), h7.sb hM hS (by omega) (by decide) (by decide), h8.sb hM hS (by omega) (by decide) (by decide), h9.sb hM hS (by omega) (by decide) (by decide), h10.sb hM hS (by omega) (by decide) (by decide), ?_, h12.sb hM hS (by omega) (by decide), h13.sb hM hS (fun a ha => by omega) (by decide) (by decide), h14.sb hM hS (fun a ha => by omega) (by decide), ?_, h16.sb hM hS (fun a ha => by omega) (by decide), h17.sb hM hS (fun a ha => by omega) (fun k _ _ => by omega), h18⟩
    · intro u' hu'
      obtain ⟨q1, q2, q3, q4, q5, q6, q7, q8, q9⟩ := h11 u' hu'
      unfold RE1
      rw [r9, r10, r12, r13, r15, s54, s55, s57, s58, s60, hM.1 (z + 14) (by omega), hS.2.1 59 (by decide)]
      by_cases eu : u' = u
      · simp only [if_pos eu]
        exact ⟨trivial, trivial, trivial, trivial, fun _ => ⟨trivial, trivial⟩, ⟨e + 1, by omega, rfl⟩, ⟨0, by omega, rfl, rfl, fun i hi => by omega⟩, ⟨0, by omega, rfl⟩, fun _ => trivial⟩
      · simp only [if_neg eu]
        exact ⟨q1, q2, q3, q4, q5, q6, q7, q8, q9⟩
    · obtain ⟨a4, a5, a6, w4, w5, w6, q, qq⟩ := h15
      refine ⟨a4, a5, a6, w4.sb hM, w5.sb hM, w6.sb hM, fun u' hu' => ?_, ?_⟩
      · obtain ⟨e, tu, y1, y2⟩ := q u' hu'
        refine ⟨?_, tu, ?_, ?_⟩
        · rw [hM.2.1 _ (by have := w4.2.1; omega), hS.2.2 19 (by decide)]; exact e
        · rw [hM.2.2]; exact y1
        · have hp : tu ≠ z + 9 ∧ tu ≠ z + 10 ∧ tu ≠ z + 11 ∧ tu ≠ z + 12 ∧ tu ≠ z + 13 ∧ tu ≠ z + 15 := by have := y2.1; omega
          unfold UN at y2 ⊢
          rw [hM.1 _ hp, hS.2.1 20 (by decide), hS.2.1 21 (by decide), hS.2.1 22 (by decide), hS.2.1 23 (by decide), hS.2.1 25 (by decide), hS.2.1 27 (by decide), hS.2.1 29 (by decide), hS.2.1 30 (by decide), hS.2.1 31 (by decide)]
          obtain ⟨y1, y2, y3, y4, y5, y6, y7, y8, ni, ns, y9, y10, y11, y12, y13, y14, y15, y16, y17, y18⟩ := y2
          refine ⟨y1, y2, y3, y4, y5, y6, y7, y8, ni, ns, y9, y10, y11, y12, y13, y14, y15, y16, y17, fun s hs hz => ?_⟩
          obtain ⟨r, w1, w2, w3⟩ := y18 s hs hz
          refine ⟨r, w1, w2, ?_⟩
          rw [r11, t3]
          by_cases eu : u' = u
          · rw [if_pos (by omega), if_pos (by omega)]
          · rw [if_neg (by omega), if_neg (by omega)]; exact w3
      · rw [hM.1 _ (by have := w6.2.1; omega), hS.2.1 34 (by decide)]
        exact qq
/-- the second walk: renew them -/
theorem hl_3 (N : Nat) (hN : 192 < N) {v : Nat} (hv : v < nu) : ∀ (n i c : Nat) (M : Cm) (S : Ms), i ≤ nu → nu < n + i → RelP z K M S b st nd nu nm → (∀ u, i ≤ u → u < nu → hwi S b u v → ∃ e, e < 30 ∧ mA S 55 u = nI e) →
    ∃ c' M' S', lC_X8_heal_65 N K (bC_X8_heal_102 N K) n z (nI v) (nI c) (nI i) M = some (nI c', M') ∧ lM_heal_91 N (bM_heal_203 N) n (nI v) (nI c) (nI i) S = some (nI c', S') ∧ RelP z K M' S' b st nd nu nm ∧ HLF z i M M' S S' := by
  intro n
  induction n with
  | zero => intro i c M S h1 h2; omega
  | succ n ih =>
    intro i c M S h1 h2 hh hed
    obtain ⟨hLY, -, -, -, -, -, -, -, -, -, hRE, -, hSA, -, hSU, -⟩ := id hh
    obtain ⟨hb, hn, s3, -, s5, -, hnu, -, -, -, s11, hsu, -⟩ := hSA
    rw [lC_X8_heal_65, lM_heal_91, gd_k hLY.k9, nn_s s3, gd_k s5, s11, hn, ck_n (show b < 2 by omega) (by decide), nI_clamp (show b < 2 ^ 31 by omega), hsu]
    by_cases hi : i < nu
    · rw [if_neg (nI_ge hi (by omega)), if_neg (nI_ge hi (by omega))]
      rcases c_hw hh N hi hv with ⟨c1, c2⟩ | ⟨c1, c2⟩
      · obtain ⟨e, e1, e2⟩ := hed i (Nat.le_refl i) hi c1
        obtain ⟨M1, S1, m1, m2, m3, m4, m5, m6⟩ := rn_step hh N hN hi e1 e2
        have yes : ((if nI i = nI v then ((bM_heal_121 N (lM_heal_91 N (bM_heal_203 N) n) (bM_heal_203 N)) (nI v) (nI c) (nI i) S) else ((fM_lean N (nI i) (nI v) S).bind fun o115 => if o115.1 = 0 then ((bM_heal_197 N (lM_heal_91 N (bM_heal_203 N) n) (bM_heal_203 N)) (nI v) (nI c) (nI i) o115.2) else ((bM_heal_121 N (lM_heal_91 N (bM_heal_203 N) n) (bM_heal_203 N)) (nI v) (nI c) (nI i) o115.2)))) = bM_heal_121 N (lM_heal_91 N (bM_heal_203 N) n) (bM_heal_203 N) (nI v) (nI c) (nI i) S := by
          by_cases ev : i = v
          · rw [if_pos (by rw [ev])]
          · rw [if_neg (fun q => ev ((nI_eq (by omega) (by omega)).mp q)), m_ln hh N hi hv, bs]
            dsimp only
            rcases c1 with q | q
            · exact absurd q ev
            · rw [q, if_neg (by decide)]
        rw [yes, m2, c2, bs]
        dsimp only
        rw [if_neg (show ¬ (1 : Int32) = 0 by decide), nn_s (hLY.r0 2 8 (by decide)), gd_k (hLY.k 8 5 0 rfl), m1, bs]
        unfold bC_X8_heal_96 bM_heal_194 bM_heal_197
        rw [nI_1, nI_1]
        obtain ⟨c', M', S', y1, y2, y3, y4⟩ := ih (i + 1) (c + 1) M1 S1 (by omega) (by omega) m3 (fun u hu1 hu2 hu3 => by
          rw [m5 u (by omega)]
          refine hed u (by omega) hu2 ?_
          unfold hwi at hu3 ⊢
          rw [m4] at hu3
          exact hu3)
        exact ⟨c', M', S', y1, y2, y3, m6.step e1 e2 y4⟩
      · have no : ((if nI i = nI v then ((bM_heal_121 N (lM_heal_91 N (bM_heal_203 N) n) (bM_heal_203 N)) (nI v) (nI c) (nI i) S) else ((fM_lean N (nI i) (nI v) S).bind fun o115 => if o115.1 = 0 then ((bM_heal_197 N (lM_heal_91 N (bM_heal_203 N) n) (bM_heal_203 N)) (nI v) (nI c) (nI i) o115.2) else ((bM_heal_121 N (lM_heal_91 N (bM_heal_203 N) n) (bM_heal_203 N)) (nI v) (nI c) (nI i) o115.2)))) = lM_heal_91 N (bM_heal_203 N) n (nI v) (nI c) (nI (i + 1)) S := by
          obtain ⟨a4, a5, a6, -, -, q6, -, qq⟩ := hSU
          obtain ⟨-, p2⟩ := qq i v hi hv
          rw [if_neg (fun q => c1 (Or.inl ((nI_eq (by omega) (by omega)).mp q))), m_ln hh N hi hv, bs]
          dsimp only
          rw [if_pos (p2.resolve_right (fun q => c1 (Or.inr q)))]
          unfold bM_heal_197
          rw [nI_1]
        rw [no, c2, bs]
        dsimp only
        rw [if_pos rfl]
        unfold bC_X8_heal_96
        rw [nI_1]
        obtain ⟨c', M', S', y1, y2, y3, y4⟩ := ih (i + 1) c M S (by omega) (by omega) hh (fun u hu1 => hed u (by omega))
        exact ⟨c', M', S', y1, y2, y3, y4.mono⟩
    · rw [if_pos (nI_le (by omega) (by omega)), if_pos (nI_le (by omega) (by omega))]
      exact ⟨c, M, S, rfl, rfl, hh, HLF.rf z i M S⟩
theorem g_heal (h : RelP z K M S b st nd nu nm) (N : Nat) (hN : 192 < N) (v1 : Int32) : ∃ M' S', fS_heal N z v1 K M S = some (K, M', S') ∧ RelP z K M' S' b st nd nu nm ∧ HLF z 0 M M' S S' := by
  have hh := h.thr 0
  have hU := c_isU h N v1
  obtain ⟨hLY, hR1, -, -, -, -, -, -, -, -, hRE, -, hSA, -, hSU, -⟩ := h
  obtain ⟨hb, hn, s3, -, s5, -, hnu, -, -, -, s11, hsu, -⟩ := hSA
  have hm := m_isU (S := pF S 0 0) hb hn hsu N v1
  unfold fS_heal fC_X8_heal fM_heal
  rw [gd_k hLY.k9, gd_k hLY.k9, hU, hm, bs, bs]
  dsimp only
  by_cases hu : isUb nu v1 = 0
  · rw [if_pos hu, if_pos hu]
    exact ⟨M, pF S 0 0, fin rfl, hh, (HLF.rf z 0 M (pF S 0 0)).thr⟩
  · obtain ⟨v, hv, rfl⟩ := isUb_1 hnu hu
    rw [if_neg hu, if_neg hu]
    have e12 : cI M z 12 = mF (pF S 0 0) 64 := hR1.2.2.2.2.1
    by_cases c0 : mF (pF S 0 0) 64 = 0
    · rw [if_pos (e12.trans c0), if_pos c0]
      rcases hl_2 hh N (bM_heal_80 N) (bC_X8_heal_61 N K) hv N 0 (by omega) (by omega) with ⟨i1, i2⟩ | ⟨i1, i2, i3⟩
      · have i1' : lC_X8_heal_19 N K (bC_X8_heal_53 N K) (bC_X8_heal_61 N K) N z (nI v) 0 M = some (-1, M) := i1
        have i2' : lM_heal_26 N (bM_heal_80 N) N (nI v) 0 0 (pF S 0 0) = some (-1, pF S 0 0) := i2
        rw [i1', i2']
        exact ⟨M, pF S 0 0, fin rfl, hh, (HLF.rf z 0 M (pF S 0 0)).thr⟩
      · have i1' : lC_X8_heal_19 N K (bC_X8_heal_53 N K) (bC_X8_heal_61 N K) N z (nI v) 0 M = bC_X8_heal_61 N K z (nI v) M := i1
        have i2' : lM_heal_26 N (bM_heal_80 N) N (nI v) 0 0 (pF S 0 0) = bM_heal_80 N (nI v) 0 (pF S 0 0) := i2
        obtain ⟨c', M', S', j1, j2, j3, j4⟩ := hl_3 (z := z) (K := K) (b := b) (st := st) (nd := nd) (nu := nu) (nm := nm) N hN hv N 0 0 M (pF S 0 0) (by omega) (by omega) hh i3
        rw [i1', i2']
        unfold bC_X8_heal_61 bM_heal_80
        rw [if_pos rfl]
        have j1' : lC_X8_heal_65 N K (bC_X8_heal_102 N K) N z (nI v) 0 0 M = some (nI c', M') := j1
        have j2' : lM_heal_91 N (bM_heal_203 N) N (nI v) 0 0 (pF S 0 0) = some (nI c', S') := j2
        rw [j1', j2']
        exact ⟨M', S', fin rfl, j3, j4.thr⟩
    · rw [if_neg (fun q => c0 (e12.symm.trans q)), if_neg c0]
      exact ⟨M, pF S 0 0, fin rfl, hh, (HLF.rf z 0 M (pF S 0 0)).thr⟩
end HEAL
