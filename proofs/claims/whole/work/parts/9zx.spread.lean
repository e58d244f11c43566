/-! leans spread by both -/
abbrev Mtx : Type := Nat → Nat → Bool
def stp (A : Mtx) (k : Nat) : Mtx := fun u v => A u v || (A u k && A k v)
def itr (A : Mtx) : Nat → Mtx
  | 0 => A
  | k + 1 => stp (itr A k) k
def Zr (A : Mtx) (nu : Nat) : Prop := ∀ u v, nu ≤ u → u < 24 → v < 24 → A u v = false
def MX (bn : Nat) (S : Ms) (A : Mtx) : Prop := ∀ u v, u < 24 → v < 24 → mA S 34 (24 * (24 * bn + u) + v) = if A u v = true then 1 else 0
def CX (sm : Nat) (M : Cm) (A : Mtx) : Prop := ∀ u v, u < 24 → v < 24 → bt (cI M (sm + 7) u) v = A u v
def FFr (b : Nat) (S S' : Ms) : Prop := mF S' = mF S ∧ (∀ k, k ≠ 34 → mA S' k = mA S k) ∧ mL S' = mL S ∧ AgO b S S'
theorem FFr.rf (b : Nat) (S : Ms) : FFr b S S := ⟨rfl, fun _ _ => rfl, rfl, AgO.rf _ _⟩
theorem FFr.tr {b : Nat} {S S' S'' : Ms} (h : FFr b S S') (q : FFr b S' S'') : FFr b S S'' := ⟨q.1.trans h.1, fun k hk => (q.2.1 k hk).trans (h.2.1 k hk), q.2.2.1.trans h.2.2.1, h.2.2.2.tr q.2.2.2⟩
theorem bt_or (x y : Int32) (i : Nat) : bt (x ||| y) i = (bt x i || bt y i) := by unfold bt; rw [Int32.toBitVec_or, BitVec.getLsbD_or]
theorem stp_k (A : Mtx) (k u : Nat) : stp A k u k = A u k := by
  unfold stp
  cases A u k <;> simp
theorem stp_r (A : Mtx) (k v : Nat) : stp A k k v = A k v := by
  unfold stp
  cases A k v <;> simp
theorem Zr.stp {A : Mtx} {nu : Nat} (h : Zr A nu) {k : Nat} (hk : k < 24) : Zr (stp A k) nu := fun u v h1 h2 h3 => by
  show (A u v || (A u k && A k v)) = false
  rw [h u v h1 h2 h3, h u k h1 h2 hk]
  rfl
theorem Zr.itr {A : Mtx} {nu : Nat} (h : Zr A nu) : ∀ k, k ≤ 24 → Zr (itr A k) nu := by
  intro k
  induction k with
  | zero => intro _; exact h
  | succ k ih => intro hk; exact (ih (by omega)).stp (by omega)
/-- behind the units nothing more comes -/
theorem itr_end {A : Mtx} {nu : Nat} (h : Zr A nu) : ∀ k, nu ≤ k → k ≤ 24 → ∀ u v, u < 24 → v < 24 → itr A k u v = itr A nu u v := by
  intro k
  induction k with
  | zero => intro h1 h2 u v hu hv; rw [show nu = 0 by omega]
  | succ k ih =>
    intro h1 h2 u v hu hv
    by_cases e : nu = k + 1
    · rw [e]
    · rw [← ih (by omega) (by omega) u v hu hv]
      show (itr A k u v || (itr A k u k && itr A k k v)) = itr A k u v
      rw [h.itr k (by omega) k v (by omega) (by omega) hv]
      simp
section SPREADM
variable {N b bn k a : Nat} {S : Ms} {A : Mtx}
theorem MX.put {S' : Ms} {A' : Mtx} {i : Nat} {w : Bool} (h : MX bn S' A') (ha : a < 24) (hi : i < 24) : MX bn (pA S' 34 (24 * (24 * bn + a) + i) (if w = true then 1 else 0)) (fun u v => if u = a ∧ v = i then w else A' u v) := fun u v hu hv => by
  rw [mA_A]
  by_cases q : u = a ∧ v = i
  · rw [if_pos ⟨rfl, by rw [q.1, q.2]⟩]
    simp only [q, and_self, if_true]
  · rw [if_neg (fun y => q ⟨by omega, by omega⟩), h u v hu hv]
    simp only [q, if_false]
theorem l18 (hb : b = 0 ∨ b = 1) (hbn : bn = 1 - b) (hk : k < 24) (ha : a < 24) (k104 : Int32 → Int32 → Ms → Option Ms) : ∀ (n i : Nat) (S' : Ms), i ≤ 24 → 24 < n + i → mF S' 12 = nI bn → MX bn S' (fun u v => if u = a ∧ v < i then stp A k u v else A u v) →
    ∃ S'', lM_leanOn_18 N k104 n (nI k) (nI a) (nI i) S' = k104 (nI k) (nI a) S'' ∧ FFr b S' S'' ∧ MX bn S'' (fun u v => if u = a then stp A k u v else A u v) := by
  intro n
  induction n with
  | zero => intro i S' h1 h2; omega
  | succ n ih =>
    intro i S' h1 h2 h12 h
    have b2 : bn < 2 := by omega
    rw [lM_leanOn_18]
    by_cases hi : i < 24
    · have e1 : ∀ x y : Nat, (24 : Int32) * (24 * nI bn + nI x) + nI y = nI (24 * (24 * bn + x) + y) := fun x y => by rw [e24b, nI_add, e24b, nI_add]
      have r1 := h a i ha hi
      have r2 := h a k ha hk
      have r3 := h k i hk hi
      simp only [Nat.lt_irrefl, and_false, if_false] at r1 r3
      have r2e : (if a = a ∧ k < i then stp A k a k else A a k) = A a k := by
        by_cases q : a = a ∧ k < i
        · rw [if_pos q, stp_k]
        · rw [if_neg q]
      have r2' : mA S' 34 (24 * (24 * bn + a) + k) = if A a k = true then 1 else 0 := by
        have r2'' : mA S' 34 (24 * (24 * bn + a) + k) = if (if a = a ∧ k < i then stp A k a k else A a k) = true then 1 else 0 := r2
        rw [r2e] at r2''
        exact r2''
      rw [if_neg (show ¬ (24 : Int32) ≤ nI i from nI_ge (b := 24) hi (by decide)), h12, e1, ck_n (show 24 * (24 * bn + a) + i < 1152 by omega) (by decide), nI_clamp (show 24 * (24 * bn + a) + i < 2 ^ 31 by omega), r1, e1, ck_n (show 24 * (24 * bn + a) + k < 1152 by omega) (by decide), nI_clamp (show 24 * (24 * bn + a) + k < 2 ^ 31 by omega), r2', e1, ck_n (show 24 * (24 * bn + k) + i < 1152 by omega) (by decide), nI_clamp (show 24 * (24 * bn + k) + i < 2 ^ 31 by omega), r3]
      have go : ∀ w : Bool, w = stp A k a i → ∃ S'', lM_leanOn_18 N k104 n (nI k) (nI a) (nI i + 1) (pA S' 34 (24 * (24 * bn + a) + i) (if w = true then 1 else 0)) = k104 (nI k) (nI a) S'' ∧ FFr b S' S'' ∧ MX bn S'' (fun u v => if u = a then stp A k u v else A u v) := fun w hw => by
        have m := h.put (a := a) (i := i) (w := w) ha hi
        have m' : MX bn (pA S' 34 (24 * (24 * bn + a) + i) (if w = true then 1 else 0)) (fun u v => if u = a ∧ v < i + 1 then stp A k u v else A u v) := fun u v hu hv => by
          have key : (if u = a ∧ v = i then w else (if u = a ∧ v < i then stp A k u v else A u v)) = (if u = a ∧ v < i + 1 then stp A k u v else A u v) := by
            by_cases q : u = a ∧ v = i
            · rw [if_pos q, if_pos ⟨q.1, by omega⟩, q.1, q.2]; exact hw
            · rw [if_neg q]
              by_cases q2 : u = a ∧ v < i
              · rw [if_pos q2, if_pos ⟨q2.1, by omega⟩]
              · rw [if_neg q2, if_neg (fun y => q2 ⟨y.1, by have := y.2; by_cases z : v = i; exact absurd ⟨y.1, z⟩ q; omega⟩)]
          have mm : mA (pA S' 34 (24 * (24 * bn + a) + i) (if w = true then 1 else 0)) 34 (24 * (24 * bn + u) + v) = if (if u = a ∧ v = i then w else (if u = a ∧ v < i then stp A k u v else A u v)) = true then 1 else 0 := m u v hu hv
          rw [key] at mm
          exact mm
        rw [nI_1]
        obtain ⟨S2, s1, s2, s3⟩ := ih (i + 1) (pA S' 34 (24 * (24 * bn + a) + i) (if w = true then 1 else 0)) (by omega) (by omega) h12 m'
        have ff : FFr b S' (pA S' 34 (24 * (24 * bn + a) + i) (if w = true then 1 else 0)) := ⟨rfl, fun k' hk' => mA_Ane _ _ _ hk', rfl, AgO.pA (ob_n hb hbn (w := 576) rfl (by decide) (by omega) (by omega)) _⟩
        exact ⟨S2, s1, ff.tr s2, s3⟩
      have g1 : ∀ s2 : Int32, bM_leanOn_97 N (lM_leanOn_18 N k104 n) k104 (nI k) (nI a) (nI i) (nI (24 * (24 * bn + a) + i)) s2 S' = lM_leanOn_18 N k104 n (nI k) (nI a) (nI i + 1) (pA S' 34 (24 * (24 * bn + a) + i) (vp_nar .boolean s2)) := fun s2 => by
        unfold bM_leanOn_97
        rw [ck_n (show 24 * (24 * bn + a) + i < 1152 by omega) (by decide), nI_clamp (show 24 * (24 * bn + a) + i < 2 ^ 31 by omega)]
      unfold bM_leanOn_92 bM_leanOn_96
      rw [g1, g1, vpn0, vpn1]
      have G1 := go true
      have G0 := go false
      simp only [if_true, if_false, Bool.false_eq_true] at G1 G0
      by_cases x1 : A a i = true
      · rw [if_pos x1, if_neg (by decide)]
        exact G1 (by unfold stp; rw [x1]; rfl)
      · rw [if_neg x1, if_pos rfl]
        have x1' : A a i = false := by simpa using x1
        by_cases x2 : A a k = true
        · rw [if_pos x2, if_neg (by decide)]
          by_cases x3 : A k i = true
          · rw [if_pos x3, if_neg (by decide)]
            exact G1 (by unfold stp; rw [x2, x3, x1']; rfl)
          · have x3' : A k i = false := by simpa using x3
            rw [if_neg x3, if_pos rfl]
            exact G0 (by unfold stp; rw [x2, x3', x1']; rfl)
        · have x2' : A a k = false := by simpa using x2
          rw [if_neg x2, if_pos rfl]
          exact G0 (by unfold stp; rw [x2', x1']; rfl)
    · have ei : i = 24 := by omega
      subst ei
      rw [if_pos (show (24 : Int32) ≤ nI 24 by decide)]
      refine ⟨S', rfl, FFr.rf _ _, fun u v hu hv => ?_⟩
      rw [h u v hu hv]
      by_cases q : u = a
      · simp only [q, hv, and_self, if_true]
      · simp only [q, false_and, if_false]
theorem l10 (hb : b = 0 ∨ b = 1) (hbn : bn = 1 - b) (hk : k < 24) (hN : 30 < N) (k110 : Int32 → Ms → Option Ms) : ∀ (n i : Nat) (S' : Ms), i ≤ 24 → 24 < n + i → mF S' 12 = nI bn → MX bn S' (fun u v => if u < i then stp A k u v else A u v) →
    ∃ S'', lM_leanOn_10 N k110 n (nI k) (nI i) S' = k110 (nI k) S'' ∧ FFr b S' S'' ∧ MX bn S'' (stp A k) := by
  intro n
  induction n with
  | zero => intro i S' h1 h2; omega
  | succ n ih =>
    intro i S' h1 h2 h12 h
    rw [lM_leanOn_10]
    by_cases hi : i < 24
    · rw [if_neg (show ¬ (24 : Int32) ≤ nI i from nI_ge (b := 24) hi (by decide))]
      have st0 : ∀ v, stp (fun u v => if u < i then stp A k u v else A u v) k i v = stp A k i v := fun v => by
        by_cases q : k < i
        · have e1 : ¬ i < i := Nat.lt_irrefl _
          have e2 := stp_r A k v
          unfold stp at e2 ⊢
          simp only [e1, q, if_true, if_false]
          rw [e2]
        · have e1 : ¬ i < i := Nat.lt_irrefl _
          unfold stp
          simp only [e1, q, if_false]
      obtain ⟨S2, s1, s2, s3⟩ := l18 (N := N) (b := b) (A := fun u v => if u < i then stp A k u v else A u v) hb hbn hk hi (bM_leanOn_104 N (lM_leanOn_10 N k110 n) k110) N 0 S' (by omega) (by omega) h12 (fun u v hu hv => by
        rw [h u v hu hv]
        have q : ¬ (u = i ∧ v < 0) := by omega
        simp only [q, if_false])
      have s1' : lM_leanOn_18 N (bM_leanOn_104 N (lM_leanOn_10 N k110 n) k110) N (nI k) (nI i) 0 S' = bM_leanOn_104 N (lM_leanOn_10 N k110 n) k110 (nI k) (nI i) S2 := s1
      rw [s1']
      unfold bM_leanOn_104
      rw [nI_1]
      obtain ⟨S3, t1, t2, t3⟩ := ih (i + 1) S2 (by omega) (by omega) (by rw [s2.1]; exact h12) (fun u v hu hv => by
        rw [s3 u v hu hv]
        by_cases q : u = i
        · have q2 : u < i + 1 := by omega
          simp only [q, if_true, Nat.lt_succ_self]
          rw [st0 v]
        · by_cases q2 : u < i
          · have q3 : u < i + 1 := by omega
            simp only [q, q2, q3, if_true, if_false]
          · have q3 : ¬ u < i + 1 := by omega
            simp only [q, q2, q3, if_false])
      exact ⟨S3, t1, s2.tr t2, t3⟩
    · have ei : i = 24 := by omega
      subst ei
      rw [if_pos (show (24 : Int32) ≤ nI 24 by decide)]
      refine ⟨S', rfl, FFr.rf _ _, fun u v hu hv => ?_⟩
      rw [h u v hu hv]
      simp only [hu, if_true]
theorem l2_ok (hb : b = 0 ∨ b = 1) (hbn : bn = 1 - b) (hN : 30 < N) : ∀ (n i : Nat) (S' : Ms), i ≤ 24 → 24 < n + i → mF S' 12 = nI bn → MX bn S' (itr A i) →
    ∃ S'', lM_leanOn_2 N (bM_leanOn_116 N) n (nI i) S' = some S'' ∧ FFr b S' S'' ∧ MX bn S'' (itr A 24) := by
  intro n
  induction n with
  | zero => intro i S' h1 h2; omega
  | succ n ih =>
    intro i S' h1 h2 h12 h
    rw [lM_leanOn_2]
    by_cases hi : i < 24
    · rw [if_neg (show ¬ (24 : Int32) ≤ nI i from nI_ge (b := 24) hi (by decide))]
      obtain ⟨S2, s1, s2, s3⟩ := l10 (N := N) (b := b) (A := itr A i) hb hbn hi hN (bM_leanOn_110 N (lM_leanOn_2 N (bM_leanOn_116 N) n) (bM_leanOn_116 N)) N 0 S' (by omega) (by omega) h12 (fun u v hu hv => by
        rw [h u v hu hv]
        simp only [Nat.not_lt_zero, if_false])
      have s1' : lM_leanOn_10 N (bM_leanOn_110 N (lM_leanOn_2 N (bM_leanOn_116 N) n) (bM_leanOn_116 N)) N (nI i) 0 S' = bM_leanOn_110 N (lM_leanOn_2 N (bM_leanOn_116 N) n) (bM_leanOn_116 N) (nI i) S2 := s1
      rw [s1']
      unfold bM_leanOn_110
      rw [nI_1]
      obtain ⟨S3, t1, t2, t3⟩ := ih (i + 1) S2 (by omega) (by omega) (by rw [s2.1]; exact h12) s3
      exact ⟨S3, t1, s2.tr t2, t3⟩
    · have ei : i = 24 := by omega
      subst ei
      rw [if_pos (show (24 : Int32) ≤ nI 24 by decide)]
      exact ⟨S', rfl, FFr.rf _ _, h⟩
end SPREADM
section SPREADC
variable {N sm nu k : Nat} {K : Ka} {A : Mtx}
theorem c12 (ks : kd K sm = 6) (k6 : kd K (sm + 7) = 22) (hl : nu ≤ le K (sm + 7)) (h24 : le K (sm + 7) ≤ 24) (hk : k < nu) (k50 : Nat → Int32 → Cm → Option Cm) : ∀ (n i : Nat) (M' : Cm), i ≤ nu → nu < n + i → cI M' sm 11 = nI nu → cR M' sm 6 = some (sm + 7) → CX sm M' (fun u v => if u < i then stp A k u v else A u v) →
    ∃ M'', lC_X5_spreadLeans_12 N K k50 n sm (nI k) (nI i) M' = k50 sm (nI k) M'' ∧ (∀ q, q ≠ sm + 7 → cI M'' q = cI M' q) ∧ cL M'' = cL M' ∧ cR M'' = cR M' ∧ CX sm M'' (fun u v => if u < nu then stp A k u v else A u v) := by
  intro n
  induction n with
  | zero => intro i M' h1 h2; omega
  | succ n ih =>
    intro i M' h1 h2 h11 h6 h
    rw [lC_X5_spreadLeans_12, gd_k ks, h11]
    by_cases hi : i < nu
    · have rb := h i k (by omega) (by omega)
      have rk := fun v hv => h k v (by omega) hv
      simp only [Nat.lt_irrefl, if_false] at rb
      have lg : fC_X5_leaning N K sm (nI i) (nI k) M' = some (if A i k = true then 1 else 0, M') := by
        unfold fC_X5_leaning bC_X5_leaning_19
        rw [gd_k ks, nn_s h6, gd_k k6, ck_n (show i < le K (sm + 7) by omega) (by omega), nI_clamp (show i < 2 ^ 31 by omega)]
        by_cases q : A i k = true
        · rw [if_pos ((bit1 (by omega)).mpr (rb.trans q)), if_pos q]
          rfl
        · rw [if_neg (fun y => q (rb.symm.trans ((bit1 (by omega)).mp y))), if_neg q]
          rfl
      rw [if_neg (nI_ge hi (by omega)), lg, bs]
      dsimp only
      by_cases q : A i k = true
      · rw [if_pos q, if_neg (by decide), nn_s h6, gd_k k6, ck_n (show i < le K (sm + 7) by omega) (by omega), nn_s h6, gd_k k6, ck_n (show k < le K (sm + 7) by omega) (by omega), ck_n (show i < le K (sm + 7) by omega) (by omega), nI_clamp (show i < 2 ^ 31 by omega), nI_clamp (show k < 2 ^ 31 by omega)]
        unfold bC_X5_spreadLeans_44
        rw [nI_1]
        have cx : CX sm (wI M' (sm + 7) i (cI M' (sm + 7) i ||| cI M' (sm + 7) k)) (fun u v => if u < i + 1 then stp A k u v else A u v) := fun u v hu hv => by
          rw [cI_w]
          by_cases y : u = i
          · subst y
            have hu1 := h u v hu hv
            have rkv := rk v hv
            simp only [Nat.lt_irrefl, if_false] at hu1
            rw [if_pos ⟨rfl, rfl⟩, bt_or, hu1, rkv]
            have e1 : u < u + 1 := Nat.lt_succ_self _
            simp only [e1, if_true]
            by_cases w : k < u
            · simp only [w, if_true, stp_r]
              unfold stp
              rw [q]; simp
            · simp only [w, if_false]
              unfold stp
              rw [q]; simp
          · rw [if_neg (fun w => y w.2), h u v hu hv]
            by_cases w : u < i
            · have w2 : u < i + 1 := by omega
              simp only [w, w2, if_true]
            · have w2 : ¬ u < i + 1 := by omega
              simp only [w, w2, if_false]
        obtain ⟨M2, s1, s2, s3, s4, s5⟩ := ih (i + 1) (wI M' (sm + 7) i (cI M' (sm + 7) i ||| cI M' (sm + 7) k)) (by omega) (by omega) (by rw [cI_wI_ne _ _ _ (by omega)]; exact h11) h6 cx
        exact ⟨M2, s1, fun q' hq' => (s2 q' hq').trans (cI_wI_ne _ _ _ hq'), s3, s4, s5⟩
      · have q' : A i k = false := by simpa using q
        rw [if_neg q, if_pos rfl]
        unfold bC_X5_spreadLeans_44
        rw [nI_1]
        refine ih (i + 1) M' (by omega) (by omega) h11 h6 (fun u v hu hv => ?_)
        rw [h u v hu hv]
        by_cases y : u = i
        · subst y
          have e1 : u < u + 1 := Nat.lt_succ_self _
          have e2 : ¬ u < u := Nat.lt_irrefl _
          simp only [e1, e2, if_true, if_false]
          unfold stp
          rw [q']; simp
        · by_cases w : u < i
          · have w2 : u < i + 1 := by omega
            simp only [w, w2, if_true]
          · have w2 : ¬ u < i + 1 := by omega
            simp only [w, w2, if_false]
    · have ei : i = nu := by omega
      subst ei
      rw [if_pos (nI_le (Nat.le_refl _) (by omega))]
      exact ⟨M', rfl, fun _ _ => rfl, rfl, rfl, h⟩
theorem c2_ok (ks : kd K sm = 6) (k6 : kd K (sm + 7) = 22) (hl : nu ≤ le K (sm + 7)) (h24 : le K (sm + 7) ≤ 24) (hN : 30 < N) (hZ : Zr A nu) : ∀ (n i : Nat) (M' : Cm), i ≤ nu → nu < n + i → cI M' sm 11 = nI nu → cR M' sm 6 = some (sm + 7) → CX sm M' (itr A i) →
    ∃ M'', lC_X5_spreadLeans_2 N K (bC_X5_spreadLeans_56 N K) n sm (nI i) M' = some M'' ∧ (∀ q, q ≠ sm + 7 → cI M'' q = cI M' q) ∧ cL M'' = cL M' ∧ cR M'' = cR M' ∧ CX sm M'' (itr A nu) := by
  intro n
  induction n with
  | zero => intro i M' h1 h2; omega
  | succ n ih =>
    intro i M' h1 h2 h11 h6 h
    rw [lC_X5_spreadLeans_2, gd_k ks, h11]
    by_cases hi : i < nu
    · rw [if_neg (nI_ge hi (by omega))]
      obtain ⟨M2, s1, s2, s3, s4, s5⟩ := c12 (N := N) (A := itr A i) ks k6 hl h24 hi (bC_X5_spreadLeans_50 N K (lC_X5_spreadLeans_2 N K (bC_X5_spreadLeans_56 N K) n) (bC_X5_spreadLeans_56 N K)) N 0 M' (by omega) (by omega) h11 h6 (fun u v hu hv => by
        rw [h u v hu hv]
        simp only [Nat.not_lt_zero, if_false])
      have s1' : lC_X5_spreadLeans_12 N K (bC_X5_spreadLeans_50 N K (lC_X5_spreadLeans_2 N K (bC_X5_spreadLeans_56 N K) n) (bC_X5_spreadLeans_56 N K)) N sm (nI i) 0 M' = bC_X5_spreadLeans_50 N K (lC_X5_spreadLeans_2 N K (bC_X5_spreadLeans_56 N K) n) (bC_X5_spreadLeans_56 N K) sm (nI i) M2 := s1
      rw [s1']
      unfold bC_X5_spreadLeans_50
      rw [nI_1]
      have cx : CX sm M2 (itr A (i + 1)) := fun u v hu hv => by
        rw [s5 u v hu hv]
        by_cases w : u < nu
        · simp only [w, if_true]
          rfl
        · simp only [w, if_false]
          show itr A i u v = (itr A i u v || (itr A i u i && itr A i i v))
          rw [hZ.itr i (by omega) u i (by omega) hu (by omega)]
          simp
      obtain ⟨M3, t1, t2, t3, t4, t5⟩ := ih (i + 1) M2 (by omega) (by omega) (by rw [s2 sm (by omega)]; exact h11) (by rw [s4]; exact h6) cx
      exact ⟨M3, t1, fun q hq => (t2 q hq).trans (s2 q hq), t3.trans s3, t4.trans s4, t5⟩
    · have ei : i = nu := by omega
      subst ei
      rw [if_pos (nI_le (Nat.le_refl _) (by omega))]
      exact ⟨M', rfl, fun _ _ => rfl, rfl, rfl, h⟩
end SPREADC
/-- leans spread by both: they agree -/
theorem sp_ok {N b bn sm nu : Nat} {K : Ka} {M : Cm} {S : Ms} (hb : b = 0 ∨ b = 1) (hbn : bn = 1 - b) (ks : kd K sm = 6) (h11 : cI M sm 11 = nI nu) (h6 : cR M sm 6 = some (sm + 7)) (k6 : kd K (sm + 7) = 22) (hl : nu ≤ le K (sm + 7)) (h24 : le K (sm + 7) ≤ 24) (hN : 30 < N) (h12 : mF S 12 = nI bn) (h : LEf bn sm nu M S) :
    ∃ M' S', fC_X5_spreadLeans N K sm M = some M' ∧ fM_leanOn N S = some S' ∧ CF sm M M' ∧ cL M' = cL M ∧ FFr b S S' ∧ LEf bn sm nu M' S' := by
  have hZ : Zr (fun u v => bt (cI M (sm + 7) u) v) nu := fun u v h1 h2 h3 => by
    obtain ⟨l1, l2, l3⟩ := h u v h2 h3
    by_cases q : bt (cI M (sm + 7) u) v = true
    · have := l1.mp q
      rw [l3 h1] at this
      exact absurd this (by decide)
    · simpa using q
  have mx : MX bn S (itr (fun u v => bt (cI M (sm + 7) u) v) 0) := fun u v hu hv => by
    obtain ⟨l1, l2, l3⟩ := h u v hu hv
    show _ = if bt (cI M (sm + 7) u) v = true then 1 else 0
    by_cases q : bt (cI M (sm + 7) u) v = true
    · rw [if_pos q]; exact l1.mp q
    · rw [if_neg q]
      rcases l2 with y | y
      · exact y
      · exact absurd (l1.mpr y) q
  obtain ⟨M', c1, c2, c3, c4, c5⟩ := c2_ok (N := N) ks k6 hl h24 hN hZ N 0 M (by omega) (by omega) h11 h6 (fun u v _ _ => rfl)
  obtain ⟨S', s1, s2, s3⟩ := l2_ok (N := N) (b := b) (bn := bn) (A := fun u v => bt (cI M (sm + 7) u) v) hb hbn hN N 0 S (by omega) (by omega) h12 mx
  refine ⟨M', S', c1, s1, ⟨c2, fun q _ => by rw [c3], c4⟩, c3, s2, fun u v hu hv => ?_⟩
  have e := s3 u v hu hv
  have nu24 : nu ≤ 24 := by omega
  rw [itr_end hZ 24 nu24 (Nat.le_refl _) u v hu hv] at e
  rw [c5 u v hu hv, e]
  by_cases q : itr (fun u v => bt (cI M (sm + 7) u) v) nu u v = true
  · rw [if_pos q]
    refine ⟨⟨fun _ => rfl, fun _ => q⟩, Or.inr rfl, fun y => ?_⟩
    rw [hZ.itr nu nu24 u v y hu hv] at q
    exact absurd q (by decide)
  · rw [if_neg q]
    exact ⟨⟨fun y => absurd y q, fun y => absurd y (by decide)⟩, Or.inl rfl, fun _ => rfl⟩
