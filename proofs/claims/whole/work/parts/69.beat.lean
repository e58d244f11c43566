/-! beat: the class goes n beats at once, the reference beat by beat -/
def bp (k p g c : Nat) : Nat := if p ≤ g then min g (p + c * k) else max g (p - c * k)
theorem bp_0 (p g c : Nat) : bp 0 p g c = p := by unfold bp; split <;> omega
theorem bp_s (k p g c : Nat) : bp 1 (bp k p g c) g c = bp (k + 1) p g c := by
  unfold bp
  rw [Nat.mul_add, Nat.mul_one]
  generalize c * k = t
  split <;> split <;> omega
theorem bp_le {k p g c B : Nat} (hp : p ≤ B) (hg : g ≤ B) : bp k p g c ≤ B := by unfold bp; split <;> omega
theorem nI_int {n : Nat} (h : n < 2 ^ 31) : (nI n).toInt = n := by
  have := Int32.toInt_ofNat_of_lt h
  exact this
theorem eq_nI {x : Int32} {n : Nat} (h : n < 2 ^ 31) (e : x.toInt = n) : x = nI n := Int32.toInt_inj.mp (e.trans (nI_int h).symm)
theorem bmod32 {x : Int} (h1 : -2147483648 ≤ x) (h2 : x < 2147483648) : x.bmod (2 ^ 32) = x := Int.bmod_eq_of_le (by omega) (by omega)
theorem bmod64 {x : Int} (h1 : -9000000000000000000 ≤ x) (h2 : x < 9000000000000000000) : x.bmod (2 ^ 64) = x := Int.bmod_eq_of_le (by omega) (by omega)
theorem bp_ref {p g c : Nat} (hp : p ≤ 999999999) (hg : g ≤ 999999999) (hc : c ≤ 999999999) :
    (nI p + (if nI g - nI p ≤ nI c then (if -(nI c) ≤ nI g - nI p then nI g - nI p else -(nI c)) else nI c)) = nI (bp 1 p g c) := by
  have e1 : (nI g - nI p).toInt = (g : Int) - p := by rw [Int32.toInt_sub, nI_int (by omega), nI_int (by omega), bmod32 (by omega) (by omega)]
  have e2 : (-(nI c)).toInt = -(c : Int) := by rw [Int32.toInt_neg, nI_int (by omega), bmod32 (by omega) (by omega)]
  have hb := bp_le (k := 1) (c := c) hp hg
  have add : ∀ (y : Int32) (v : Int), y.toInt = v → -2000000000 ≤ (p : Int) + v → (p : Int) + v ≤ 2000000000 → (p : Int) + v = bp 1 p g c → nI p + y = nI (bp 1 p g c) := fun y v hy h1 h2 h3 => eq_nI (by omega) (by rw [Int32.toInt_add, nI_int (by omega), hy, bmod32 (by omega) (by omega), h3])
  by_cases c1 : nI g - nI p ≤ nI c
  · rw [if_pos c1]
    rw [Int32.le_iff_toInt_le, e1, nI_int (by omega)] at c1
    by_cases c2 : -(nI c) ≤ nI g - nI p
    · rw [if_pos c2]
      rw [Int32.le_iff_toInt_le, e1, e2] at c2
      exact add _ _ e1 (by omega) (by omega) (by unfold bp; split <;> omega)
    · rw [if_neg c2]
      rw [Int32.le_iff_toInt_le, e1, e2] at c2
      exact add _ _ e2 (by omega) (by omega) (by unfold bp; split <;> omega)
  · rw [if_neg c1]
    rw [Int32.le_iff_toInt_le, e1, nI_int (by omega)] at c1
    exact add _ _ (nI_int (by omega)) (by omega) (by omega) (by unfold bp; split <;> omega)
theorem bp_cls {p g c k : Nat} (hp : p ≤ 999999999) (hg : g ≤ 999999999) (hc : c ≤ 999999999) (hk : k ≤ 1000) :
    ((((nI p : Int32).toInt64) + (if (if (((nI g : Int32).toInt64) - ((nI p : Int32).toInt64)) < (((nI c : Int32).toInt64) * ((nI k : Int32).toInt64)) then (((nI g : Int32).toInt64) - ((nI p : Int32).toInt64)) else (((nI c : Int32).toInt64) * ((nI k : Int32).toInt64))) < (-(((nI c : Int32).toInt64) * ((nI k : Int32).toInt64))) then (-(((nI c : Int32).toInt64) * ((nI k : Int32).toInt64))) else (if (((nI g : Int32).toInt64) - ((nI p : Int32).toInt64)) < (((nI c : Int32).toInt64) * ((nI k : Int32).toInt64)) then (((nI g : Int32).toInt64) - ((nI p : Int32).toInt64)) else (((nI c : Int32).toInt64) * ((nI k : Int32).toInt64)))) : Int64).toInt32) = nI (bp k p g c) := by
  have hb := bp_le (k := k) (c := c) hp hg
  have hm : c * k ≤ 999999999 * 1000 := Nat.mul_le_mul hc hk
  have hq : bp k p g c = (if p ≤ g then min g (p + c * k) else max g (p - c * k)) := rfl
  have e3 : (((nI c : Int32).toInt64) * ((nI k : Int32).toInt64)).toInt = ((c * k : Nat) : Int) := by
    rw [Int64.toInt_mul, Int32.toInt_toInt64, Int32.toInt_toInt64, nI_int (by omega), nI_int (by omega), ← Int.natCast_mul]
    generalize c * k = t at *
    exact bmod64 (by omega) (by omega)
  generalize c * k = t at *
  generalize ((nI c : Int32).toInt64) * ((nI k : Int32).toInt64) = B at *
  have e1 : (((nI g : Int32).toInt64) - ((nI p : Int32).toInt64)).toInt = (g : Int) - p := by
    rw [Int64.toInt_sub, Int32.toInt_toInt64, Int32.toInt_toInt64, nI_int (by omega), nI_int (by omega), bmod64 (by omega) (by omega)]
  generalize ((nI g : Int32).toInt64) - ((nI p : Int32).toInt64) = A at *
  have e2 : (-B).toInt = -(t : Int) := by rw [Int64.toInt_neg, e3, bmod64 (by omega) (by omega)]
  have add : ∀ (y : Int64) (v : Int), y.toInt = v → -2000000000 ≤ (p : Int) + v → (p : Int) + v ≤ 2000000000 → (p : Int) + v = bp k p g c → (((nI p).toInt64 + y).toInt32) = nI (bp k p g c) := fun y v hy h1 h2 h3 => eq_nI (by omega) (by rw [Int64.toInt_toInt32, Int64.toInt_add, Int32.toInt_toInt64, nI_int (by omega), hy, bmod64 (by omega) (by omega), bmod32 (by omega) (by omega), h3])
  by_cases c1 : A < B
  · rw [if_pos c1]
    rw [Int64.lt_iff_toInt_lt, e1, e3] at c1
    by_cases c2 : A < -B
    · rw [if_pos c2]
      rw [Int64.lt_iff_toInt_lt, e1, e2] at c2
      exact add _ _ e2 (by omega) (by omega) (by rw [hq]; split <;> omega)
    · rw [if_neg c2]
      rw [Int64.lt_iff_toInt_lt, e1, e2] at c2
      exact add _ _ e1 (by omega) (by omega) (by rw [hq]; split <;> omega)
  · rw [if_neg c1]
    rw [Int64.lt_iff_toInt_lt, e1, e3] at c1
    have c2 : ¬ B < -B := by rw [Int64.lt_iff_toInt_lt, e2, e3]; omega
    rw [if_neg c2]
    exact add _ _ e3 (by omega) (by omega) (by rw [hq]; split <;> omega)
section BEAT
variable {z : Nat} {K : Ka} {b st nd nu nm : Nat}
theorem bt_in (N : Nat) (k124 : Int32 → Int32 → Ms → Option (Int32 × Ms)) (x1 x2 : Int32) {p g c : Nat → Nat} (hb : b = 0 ∨ b = 1) (hnd : nd ≤ 24) (hg : ∀ d, d < nd → p d ≤ 999999999 ∧ g d ≤ 999999999 ∧ c d ≤ 999999999) : ∀ (n i : Nat) (S : Ms), i ≤ nd → nd < n + i → mF S 11 = nI b → mA S 13 b = nI nd → (∀ d, d < nd → mA S 62 d = nI (g d) ∧ mA S 17 (24 * b + d) = nI (c d)) → (∀ d, i ≤ d → d < nd → mA S 61 d = nI (p d)) → (∀ d, d < i → mA S 61 d = nI (bp 1 (p d) (g d) (c d))) →
    ∃ S', lM_beat_37 N k124 n x1 x2 (nI i) S = k124 x1 x2 S' ∧ AgS (fun _ => True) (fun k => k ≠ 61) S S' ∧ ∀ d, d < nd → mA S' 61 d = nI (bp 1 (p d) (g d) (c d)) := by
  intro n
  induction n with
  | zero => intro i S h1 h2; omega
  | succ n ih =>
    intro i S h1 h2 hn h13 hgc hp hd
    rw [lM_beat_37, hn, ck_n (show b < 2 by omega) (by decide), nI_clamp (by omega), h13]
    by_cases hi : i < nd
    · obtain ⟨q1, q2, q3⟩ := hg i hi
      obtain ⟨r1, r2⟩ := hgc i hi
      have e24 : (24 : Int32) * nI b + nI i = nI (24 * b + i) := by rw [show (24 : Int32) = nI 24 from rfl, nI_mul, nI_add]
      rw [if_neg (show ¬ nI nd ≤ nI i from nI_ge hi (by omega)), e24, ck_n (show 24 * b + i < 48 by omega) (by decide), ck_n (show i < 24 by omega) (by decide), ck_n (show i < 24 by omega) (by decide), ck_n (show i < 24 by omega) (by decide), nI_clamp (show i < 2 ^ 31 by omega), nI_clamp (show 24 * b + i < 2 ^ 31 by omega), r1, r2, hp i (Nat.le_refl i) hi]
      have hz : ∀ y : Int32, bM_beat_116 N (lM_beat_37 N k124 n) k124 x1 x2 (nI i) (nI i) (nI (p i)) y S = lM_beat_37 N k124 n x1 x2 (nI (i + 1)) (pA S 61 i (nI (p i) + y)) := fun y => by
        unfold bM_beat_116
        rw [ck_n (show i < 24 by omega) (by decide), nI_clamp (by omega), nI_1]
      rw [hz, hz, hz]
      have hw : ∀ y : Int32, nI (p i) + y = nI (bp 1 (p i) (g i) (c i)) → ∃ S', lM_beat_37 N k124 n x1 x2 (nI (i + 1)) (pA S 61 i (nI (p i) + y)) = k124 x1 x2 S' ∧ AgS (fun _ => True) (fun k => k ≠ 61) S S' ∧ ∀ d, d < nd → mA S' 61 d = nI (bp 1 (p d) (g d) (c d)) := fun y hy => by
        rw [hy]
        obtain ⟨S', a1, a2, a3⟩ := ih (i + 1) (pA S 61 i (nI (bp 1 (p i) (g i) (c i)))) (by omega) (by omega) hn (by rw [mA_Ane _ _ _ (by decide)]; exact h13) (by rw [mA_Ane _ _ _ (by decide), mA_Ane _ _ _ (by decide)]; exact hgc)
          (fun d d1 d2 => by rw [mA_A, if_neg (fun q => by omega)]; exact hp d (by omega) d2)
          (fun d d1 => by
            rw [mA_A]
            by_cases ed : d = i
            · rw [if_pos ⟨rfl, ed⟩, ed]
            · rw [if_neg (fun q => ed q.2)]; exact hd d (by omega))
        exact ⟨S', a1, ⟨fun k hk => by rw [a2.1 k hk, mF_A], fun k hk => by rw [a2.2.1 k hk, mA_Ane _ _ _ hk], fun k hk => by rw [a2.2.2 k hk, mL_A]⟩, a3⟩
      have hr := bp_ref q1 q2 q3
      by_cases c1 : nI (g i) - nI (p i) ≤ nI (c i)
      · rw [if_pos c1] at hr ⊢
        by_cases c2 : -(nI (c i)) ≤ nI (g i) - nI (p i)
        · rw [if_pos c2] at hr ⊢
          exact hw _ hr
        · rw [if_neg c2] at hr ⊢
          exact hw _ hr
      · rw [if_neg c1] at hr ⊢
        exact hw _ hr
    · have e : i = nd := by omega
      subst e
      rw [if_pos (show nI i ≤ nI i from nI_le (Nat.le_refl i) (by omega))]
      exact ⟨S, rfl, ⟨fun _ _ => rfl, fun _ _ => rfl, fun _ _ => rfl⟩, hd⟩
theorem bt_out (N : Nat) (hN : 24 < N) {p g c : Nat → Nat} {k : Nat} (hk : k ≤ 1000) (hb : b = 0 ∨ b = 1) (hnd : nd ≤ 24) (hg : ∀ d, d < nd → p d ≤ 999999999 ∧ g d ≤ 999999999 ∧ c d ≤ 999999999) : ∀ (n j : Nat) (S : Ms) (v : Int32), j ≤ k → k < n + j → mF S 11 = nI b → mA S 13 b = nI nd → (∀ d, d < nd → mA S 62 d = nI (g d) ∧ mA S 17 (24 * b + d) = nI (c d)) → (∀ d, d < nd → mA S 61 d = nI (bp j (p d) (g d) (c d))) → mF S 63 = v + nI j →
    ∃ S', lM_beat_20 N (bM_beat_130 N) n (nI k) (nI j) S = some (v + nI k, S') ∧ AgS (fun k => k ≠ 63) (fun k => k ≠ 61) S S' ∧ mF S' 63 = v + nI k ∧ ∀ d, d < nd → mA S' 61 d = nI (bp k (p d) (g d) (c d)) := by
  intro n
  induction n with
  | zero => intro j S v h1 h2; omega
  | succ n ih =>
    intro j S v h1 h2 hn h13 hgc hp hv
    rw [lM_beat_20]
    by_cases hj : j < k
    · rw [if_neg (show ¬ nI k ≤ nI j from nI_ge hj (by omega))]
      obtain ⟨S1, a1, a2, a3⟩ := bt_in N (bM_beat_124 N (lM_beat_20 N (bM_beat_130 N) n) (bM_beat_130 N)) (nI k) (nI j) (p := fun d => bp j (p d) (g d) (c d)) (g := g) (c := c) hb hnd (fun d hd => ⟨bp_le (hg d hd).1 (hg d hd).2.1, (hg d hd).2⟩) N 0 (pF S 63 (mF S 63 + 1)) (by omega) (by omega) hn h13 hgc (fun d _ hd => hp d hd) (fun d hd => by omega)
      have e1 : lM_beat_37 N (bM_beat_124 N (lM_beat_20 N (bM_beat_130 N) n) (bM_beat_130 N)) N (nI k) (nI j) 0 (pF S 63 (mF S 63 + 1)) = lM_beat_20 N (bM_beat_130 N) n (nI k) (nI (j + 1)) S1 := by
        rw [show (0 : Int32) = nI 0 from rfl, a1]
        unfold bM_beat_124
        rw [nI_1]
      have v1 : mF S1 63 = v + nI (j + 1) := by rw [a2.1 63 trivial, mF_F, if_pos rfl, hv, Int32.add_assoc, nI_1]
      obtain ⟨S', b1, b2, b3, b4⟩ := ih (j + 1) S1 v (by omega) (by omega) (by rw [a2.1 11 trivial]; exact hn) (by rw [a2.2.1 13 (by decide)]; exact h13) (by rw [a2.2.1 62 (by decide), a2.2.1 17 (by decide)]; exact hgc) (fun d hd => by rw [a3 d hd, bp_s]) v1
      refine ⟨S', by rw [e1, b1], ⟨fun q hq => by rw [b2.1 q hq, a2.1 q trivial, mF_F, if_neg hq], fun q hq => by rw [b2.2.1 q hq, a2.2.1 q hq, mA_F], fun k hk => by rw [b2.2.2 k hk, a2.2.2 k hk, mL_F]⟩, b3, b4⟩
    · have e : j = k := by omega
      subst e
      rw [if_pos (show nI j ≤ nI j from nI_le (Nat.le_refl j) (by omega))]
      refine ⟨S, ?_, ⟨fun _ _ => rfl, fun _ _ => rfl, fun _ _ => rfl⟩, hv, hp⟩
      unfold bM_beat_130
      rw [hv]
theorem bt_cls (N : Nat) {p g c : Nat → Nat} {k a3 : Nat} (hk : k ≤ 1000) (hnd : nd ≤ 24) (hg : ∀ d, d < nd → p d ≤ 999999999 ∧ g d ≤ 999999999 ∧ c d ≤ 999999999) (h3 : kd K a3 = 22) (h3l : nd ≤ le K a3) (h3m : le K a3 < 2 ^ 31) (h3z : z + 89 ≤ a3) (hst : z + 89 ≤ st) (hkst : kd K st = 6) : ∀ (n i : Nat) (M : Cm), LY z K M → cR M z 7 = some st → cR M st 3 = some a3 → cI M st 10 = nI nd → i ≤ nd → nd < n + i → (∀ d, d < nd → cI M (z + 18) d = nI (g d) ∧ cI M a3 d = nI (c d)) → (∀ d, i ≤ d → d < nd → cI M (z + 17) d = nI (p d)) → (∀ d, d < i → cI M (z + 17) d = nI (bp k (p d) (g d) (c d))) →
    ∃ M', lC_X8_beat_15 N K (bC_X8_beat_106 N K) n z (nI k) (nI i) M = bC_X8_beat_106 N K z (nI k) M' ∧ AgM (fun a => a ≠ z + 17) M M' ∧ ∀ d, d < nd → cI M' (z + 17) d = nI (bp k (p d) (g d) (c d)) := by
  intro n
  induction n with
  | zero => intro i M _ _ _ _ h1 h2; omega
  | succ n ih =>
    intro i M hLY r7 r3 hnd0 h1 h2 hgc hp hd
    rw [lC_X8_beat_15, gd_k hLY.k9, nn_s r7, gd_k hkst, hnd0]
    by_cases hi : i < nd
    · obtain ⟨q1, q2, q3⟩ := hg i hi
      obtain ⟨r1, r2⟩ := hgc i hi
      have s2 := hLY.r0 2 8 (by decide)
      have k8 := hLY.k 8 5 0 rfl
      have l17 := hLY.l 17 22 24 rfl (by decide)
      have l18 := hLY.l 18 22 24 rfl (by decide)
      rw [if_neg (show ¬ nI nd ≤ nI i from nI_ge hi (by omega)), nn_s s2, gd_k k8, nn_s (hLY.r 8 9 18 (by decide)), gd_k (hLY.k 18 22 24 rfl), l18, ck_n (show i < 24 by omega) (by decide), nn_s s2, gd_k k8, nn_s (hLY.r 8 8 17 (by decide)), gd_k (hLY.k 17 22 24 rfl), l17, ck_n (show i < 24 by omega) (by decide), nn_s r7, gd_k hkst, nn_s r3, gd_k h3, ck_n (show i < le K a3 by omega) h3m, nn_s s2, gd_k k8, nn_s s2, gd_k k8, nn_s (hLY.r 8 8 17 (by decide)), gd_k (hLY.k 17 22 24 rfl), l17, ck_n (show i < 24 by omega) (by decide), nn_s (hLY.r 8 8 17 (by decide)), gd_k (hLY.k 17 22 24 rfl), l17, ck_n (show i < 24 by omega) (by decide), nI_clamp (show i < 2 ^ 31 by omega), r1, r2, hp i (Nat.le_refl i) hi, bp_cls q1 q2 q3 hk, nI_1]
      have hM : AgM (fun a => a ≠ z + 17) M (wI M (z + 17) i (nI (bp k (p i) (g i) (c i)))) := ⟨fun a ha => cI_wI_ne _ _ _ ha, fun _ _ => rfl, rfl⟩
      obtain ⟨M', a1, a2, a4⟩ := ih (i + 1) (wI M (z + 17) i (nI (bp k (p i) (g i) (c i)))) (hLY.sb hM) r7 r3 (by rw [hM.1 st (by omega)]; exact hnd0) (by omega) (by omega)
        (by rw [hM.1 (z + 18) (by omega), hM.1 a3 (by omega)]; exact hgc)
        (fun d d1 d2 => by rw [cI_w, if_neg (fun q => by omega)]; exact hp d (by omega) d2)
        (fun d d1 => by
          rw [cI_w]
          by_cases ed : d = i
          · rw [if_pos ⟨rfl, ed⟩, ed]
          · rw [if_neg (fun q => ed q.2)]; exact hd d (by omega))
      exact ⟨M', a1, ⟨fun a ha => by rw [a2.1 a ha, hM.1 a ha], fun a ha => by rw [a2.2.1 a ha, hM.2.1 a ha], by rw [a2.2.2, hM.2.2]⟩, a4⟩
    · have e : i = nd := by omega
      subst e
      rw [if_pos (show nI i ≤ nI i from nI_le (Nat.le_refl i) (by omega))]
      exact ⟨M, rfl, ⟨fun _ _ => rfl, fun _ _ => rfl, rfl⟩, hd⟩
theorem g_beat {M : Cm} {S : Ms} (h : RelP z K M S b st nd nu nm) (N : Nat) (hN : 1001 < N) (v1 : Int32) : ∃ M' S', fS_beat N z v1 K M S = some (K, M', S') ∧ RelP z K M' S' b st nd nu nm ∧ FRQ z M M' S S' := by
  have hh := h.thr 0
  unfold fS_beat
  rw [gd_k h.1.k9]
  have same : fC_X8_beat N K z v1 M = some (-1, M) → fM_beat N v1 S = some (-1, pF S 0 0) → ∃ M' S', ((fC_X8_beat N K z v1 M).bind fun o1 => (fM_beat N v1 S).bind fun q498 => gd (o1.1 == q498.1) (some (K, o1.2, q498.2))) = some (K, M', S') ∧ RelP z K M' S' b st nd nu nm ∧ FRQ z M M' S S' := fun c m => ⟨M, pF S 0 0, by rw [c, m]; exact fin rfl, hh, FRQ.t0 z M S 0⟩
  by_cases c0 : v1 < 0
  · exact same (by unfold fC_X8_beat; rw [if_pos c0]; rfl) (by unfold fM_beat; rw [if_pos c0]; rfl)
  · obtain ⟨k, hk, rfl⟩ := nI_of c0
    by_cases c1 : k ≤ 1000
    · obtain ⟨h1, h2, h3, h4, h5, h6, h7, h8, h9, h10, h11, h12, h13, h14, h15, h16, h17, h18⟩ := hh
      obtain ⟨hb, hn, s3, s4, s5, hnd, hnu, -, s9, s10, -⟩ := id h13
      obtain ⟨a0, a1, a2, a3, -, -, -, w3, q⟩ := id h14
      have cp : ∀ a : Nat, a ≤ 999999999 → (nI a).toNatClampNeg = a := fun a ha => nI_clamp (by omega)
      have X : ∀ d, d < nd → (mA S 61 d).toNatClampNeg ≤ 999999999 ∧ (mA S 62 d).toNatClampNeg ≤ 999999999 ∧ (mA S 17 (24 * b + d)).toNatClampNeg ≤ 999999999 := fun d hd => by
        obtain ⟨-, -, ⟨x, x1, x2⟩, y, y1, y2⟩ := h12 d hd
        obtain ⟨-, -, -, -, -, -, w, w1, w2, w4⟩ := q d hd
        have x2 : mA S 61 d = nI x := x2
        have y2 : mA S 62 d = nI y := y2
        have w4 : mA S 17 (24 * b + d) = nI w := w4
        rw [x2, y2, w4, cp x x1, cp y y1, cp w w2]
        exact ⟨x1, y1, w2⟩
      have Y : ∀ d, d < nd → mA S 61 d = nI (mA S 61 d).toNatClampNeg ∧ mA S 62 d = nI (mA S 62 d).toNatClampNeg ∧ mA S 17 (24 * b + d) = nI (mA S 17 (24 * b + d)).toNatClampNeg := fun d hd => by
        obtain ⟨-, -, ⟨x, x1, x2⟩, y, y1, y2⟩ := h12 d hd
        obtain ⟨-, -, -, -, -, -, w, w1, w2, w4⟩ := q d hd
        have x2 : mA S 61 d = nI x := x2
        have y2 : mA S 62 d = nI y := y2
        have w4 : mA S 17 (24 * b + d) = nI w := w4
        rw [x2, y2, w4, cp x x1, cp y y1, cp w w2]
        exact ⟨rfl, rfl, rfl⟩
      obtain ⟨S', t1, t2, t3, t4⟩ := bt_out (b := b) (nd := nd) N (by omega) (p := fun d => (mA S 61 d).toNatClampNeg) (g := fun d => (mA S 62 d).toNatClampNeg) (c := fun d => (mA S 17 (24 * b + d)).toNatClampNeg) c1 hb hnd X N 0 (pF S 0 0) (mF S 63) (by omega) (by omega) hn s10 (fun d hd => (Y d hd).2) (fun d hd => by rw [bp_0]; exact (Y d hd).1) (by rw [show nI 0 = 0 from rfl, Int32.add_zero]; rfl)
      obtain ⟨M', m1, m2, m3⟩ := bt_cls (K := K) (z := z) (st := st) (nd := nd) N (p := fun d => (mA S 61 d).toNatClampNeg) (g := fun d => (mA S 62 d).toNatClampNeg) (c := fun d => (mA S 17 (24 * b + d)).toNatClampNeg) c1 hnd X w3.2.2.2.1 w3.2.2.2.2.1 w3.2.2.2.2.2 w3.2.1.1 s4.1 s5 N 0 M h1 s3 w3.1 s9 (by omega) (by omega) (fun d hd => ⟨(h12 d hd).2.1.trans (Y d hd).2.1, (q d hd).2.2.2.1.trans (Y d hd).2.2⟩) (fun d _ hd => (h12 d hd).1.trans (Y d hd).1) (fun d hd => by omega)
      have h1' := h1.sb m2
      have v8 : cI M' (z + 8) 11 = mF S 63 := by rw [m2.1 (z + 8) (by omega)]; exact h2.1
      have ec : fC_X8_beat N K z (nI k) M = some (mF S 63 + nI k, wI M' (z + 8) 11 (mF S 63 + nI k)) := by
        unfold fC_X8_beat
        rw [if_neg c0, if_pos (show nI k ≤ 1000 from nI_le (b := 1000) c1 (by decide)), show (0 : Int32) = nI 0 from rfl, m1]
        unfold bC_X8_beat_106
        rw [gd_k h1.k9, nn_s (h1'.r0 2 8 (by decide)), gd_k (h1.k 8 5 0 rfl), cR_I, nn_s (h1'.r0 2 8 (by decide)), gd_k (h1.k 8 5 0 rfl), cI_w, if_pos ⟨rfl, rfl⟩, v8]
      have em : fM_beat N (nI k) S = some (mF S 63 + nI k, S') := by
        unfold fM_beat
        rw [if_neg c0, if_pos (show nI k ≤ 1000 from nI_le (b := 1000) c1 (by decide))]
        exact t1
      rw [ec, em]
      refine ⟨_, _, fin rfl, ?_, (FRQ.t0 z M S 0).tr ⟨⟨fun a ha => by rw [cI_wI_ne _ _ _ (by omega), m2.1 a (by omega)], fun a ha => by rw [cL_I, m2.2.1 a (by omega)], by rw [cR_I, m2.2.2]⟩, fun k hk => t2.1 k (by omega), fun k hk => t2.2.1 k (by omega), fun k hk => t2.2.2 k (by omega)⟩⟩
      have hM : AgM (fun a => a ≠ z + 8 ∧ a ≠ z + 17) M (wI M' (z + 8) 11 (mF S 63 + nI k)) := ⟨fun a ha => by rw [cI_wI_ne _ _ _ ha.1, m2.1 a ha.2], fun a ha => by rw [cL_I, m2.2.1 a ha.2], by rw [cR_I, m2.2.2]⟩
      refine ⟨h1.sb hM, ?_, h3.sb hM t2 (by omega) (by decide) (by decide), h4.sb hM t2 (by omega) (by decide), h5.sb hM t2 (by omega) (by decide) (by decide), h6.sb hM t2 (by omega) (by decide) (by decide), h7.sb hM t2 (by omega) (by decide) (by decide), h8.sb hM t2 (by omega) (by decide) (by decide), h9.sb hM t2 (by omega) (by decide) (by decide), ?_, h11.sb hM t2 (by omega) (by decide), ?_, h13.sb hM t2 (fun a ha => by omega) (by decide) (by decide), h14.sb hM t2 (fun a ha => by omega) (by decide), h15.sb hM t2 (fun a ha => by omega) (by omega) (by decide) (by decide), h16.sb hM t2 (fun a ha => by omega) (by decide), h17.sb hM t2 (fun a ha => by omega) (fun k _ _ => by omega), h18⟩
      · unfold R1
        rw [cI_w, if_pos ⟨rfl, rfl⟩, hM.1 z (by omega), hM.1 (z + 35) (by omega), t3, t2.1 88 (by decide), t2.1 89 (by decide), t2.1 66 (by decide), t2.1 64 (by decide), t2.1 65 (by decide)]
        exact ⟨rfl, h2.2⟩
      · obtain ⟨n, p0, p1, p2, p3, p4⟩ := h10
        refine ⟨n, p0, ?_, ?_, ?_, ?_⟩
        · rw [cI_w, if_neg (by omega), m2.1 (z + 8) (by omega)]; exact p1
        · rw [t2.1 71 (by decide)]; exact p2
        · rw [hM.1 (z + 16) (by omega), t2.2.1 69 (by decide), t2.2.1 70 (by decide)]; exact p3
        · rw [t2.2.1 69 (by decide), t2.2.1 70 (by decide)]; exact p4
      · intro d hd
        rw [cI_wI_ne _ _ _ (show z + 17 ≠ z + 8 by omega), hM.1 (z + 18) (by omega), m3 d hd, t4 d hd, t2.2.1 62 (by decide)]
        exact ⟨rfl, (h12 d hd).2.1, ⟨_, bp_le (X d hd).1 (X d hd).2.1, rfl⟩, (h12 d hd).2.2.2⟩
    · have c2 : ¬ nI k ≤ 1000 := nI_ge (a := 1000) (by omega) hk
      exact same (by unfold fC_X8_beat; rw [if_neg c0, if_neg c2]; rfl) (by unfold fM_beat; rw [if_neg c0, if_neg c2]; rfl)
end BEAT
