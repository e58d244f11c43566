/-! beat: the class goes n beats at once, the reference beat by beat -/
def bp (k p g c : Nat) : Nat := if p ≤ g then min g (p + c * k) else max g (p - c * k)
theorem bp_0 (p g c : Nat) : bp 0 p g c = p := by unfold bp; split <;> omega
theorem bp_s (k p g c : Nat) : bp 1 (bp k p g c) g c = bp (k + 1) p g c := by
  unfold bp
  rw [Nat.mul_add, Nat.mul_one]
  generalize c * k = t
  split <;> split <;> omega
theorem bp_le {k p g c B : Nat} (hp : p ≤ B) (hg : g ≤ B) : bp k p g c ≤ B := by unfold bp; split <;> omega
theorem nI_int {n : Nat} (h : n < 2 ^ 31) : (nI n).toInt = n := by
  have := Int32.toInt_ofNat_of_lt h
  exact this
theorem eq_nI {x : Int32} {n : Nat} (h : n < 2 ^ 31) (e : x.toInt = n) : x = nI n := Int32.toInt_inj.mp (e.trans (nI_int h).symm)
theorem bmod32 {x : Int} (h1 : -2147483648 ≤ x) (h2 : x < 2147483648) : x.bmod (2 ^ 32) = x := Int.bmod_eq_of_le (by omega) (by omega)
theorem bmod64 {x : Int} (h1 : -9000000000000000000 ≤ x) (h2 : x < 9000000000000000000) : x.bmod (2 ^ 64) = x := Int.bmod_eq_of_le (by omega) (by omega)
theorem bp_ref {p g c : Nat} (hp : p ≤ 999999999) (hg : g ≤ 999999999) (hc : c ≤ 999999999) :
    (nI p + (if nI g - nI p ≤ nI c then (if -(nI c) ≤ nI g - nI p then nI g - nI p else -(nI c)) else nI c)) = nI (bp 1 p g c) := by
  have e1 : (nI g - nI p).toInt = (g : Int) - p := by rw [Int32.toInt_sub, nI_int (by omega), nI_int (by omega), bmod32 (by omega) (by omega)]
  have e2 : (-(nI c)).toInt = -(c : Int) := by rw [Int32.toInt_neg, nI_int (by omega), bmod32 (by omega) (by omega)]
  have hb := bp_le (k := 1) (c := c) hp hg
  have add : ∀ (y : Int32) (v : Int), y.toInt = v → -2000000000 ≤ (p : Int) + v → (p : Int) + v ≤ 2000000000 → (p : Int) + v = bp 1 p g c → nI p + y = nI (bp 1 p g c) := fun y v hy h1 h2 h3 => eq_nI (by omega) (by rw [Int32.toInt_add, nI_int (by omega), hy, bmod32 (by omega) (by omega), h3])
  by_cases c1 : nI g - nI p ≤ nI c
  · rw [if_pos c1]
    rw [Int32.le_iff_toInt_le, e1, nI_int (by omega)] at c1
    by_cases c2 : -(nI c) ≤ nI g - nI p
    · rw [if_pos c2]
      rw [Int32.le_iff_toInt_le, e1, e2] at c2
      exact add _ _ e1 (by omega) (by omega) (by unfold bp; split <;> omega)
    · rw [if_neg c2]
      rw [Int32.le_iff_toInt_le, e1, e2] at c2
      exact add _ _ e2 (by omega) (by omega) (by unfold bp; split <;> omega)
  · rw [if_neg c1]
    rw [Int32.le_iff_toInt_le, e1, nI_int (by omega)] at c1
    exact add _ _ (nI_int (by omega)) (by omega) (by omega) (by unfold bp; split <;> omega)
theorem bp_cls {p g c k : Nat} (hp : p ≤ 999999999) (hg : g ≤ 999999999) (hc : c ≤ 999999999) (hk : k ≤ 1000) :
    ((((nI p : Int32).toInt64) + (if (if (((nI g : Int32).toInt64) - ((nI p : Int32).toInt64)) < (((nI c : Int32).toInt64) * ((nI k : Int32).toInt64)) then (((nI g : Int32).toInt64) - ((nI p : Int32).toInt64)) else (((nI c : Int32).toInt64) * ((nI k : Int32).toInt64))) < (-(((nI c : Int32).toInt64) * ((nI k : Int32).toInt64))) then (-(((nI c : Int32).toInt64) * ((nI k : Int32).toInt64))) else (if (((nI g : Int32).toInt64) - ((nI p : Int32).toInt64)) < (((nI c : Int32).toInt64) * ((nI k : Int32).toInt64)) then (((nI g : Int32).toInt64) - ((nI p : Int32).toInt64)) else (((nI c : Int32).toInt64) * ((nI k : Int32).toInt64)))) : Int64).toInt32) = nI (bp k p g c) := by
  have hb := bp_le (k := k) (c := c) hp hg
  have hm : c * k ≤ 999999999 * 1000 := Nat.mul_le_mul hc hk
  have hq : bp k p g c = (if p ≤ g then min g (p + c * k) else max g (p - c * k)) := rfl
  have e3 : (((nI c : Int32).toInt64) * ((nI k : Int32).toInt64)).toInt = ((c * k : Nat) : Int) := by
    rw [Int64.toInt_mul, Int32.toInt_toInt64, Int32.toInt_toInt64, nI_int (by omega), nI_int (by omega), ← Int.natCast_mul]
    generalize c * k = t at *
    exact bmod64 (by omega) (by omega)
  generalize c * k = t at *
  generalize ((nI c : Int32).toInt64) * ((nI k : Int32).toInt64) = B at *
  have e1 : (((nI g : Int32).toInt64) - ((nI p : Int32).toInt64)).toInt = (g : Int) - p := by
    rw [Int64.toInt_sub, Int32.toInt_toInt64, Int32.toInt_toInt64, nI_int (by omega), nI_int (by omega), bmod64 (by omega) (by omega)]
  generalize ((nI g : Int32).toInt64) - ((nI p : Int32).toInt64) = A at *
  have e2 : (-B).toInt = -(t : Int) := by rw [Int64.toInt_neg, e3, bmod64 (by omega) (by omega)]
  have add : ∀ (y : Int64) (v : Int), y.toInt = v → -2000000000 ≤ (p : Int) + v → (p : Int) + v ≤ 2000000000 → (p : Int) + v = bp k p g c → (((nI p).toInt64 + y).toInt32) = nI (bp k p g c) := fun y v hy h1 h2 h3 => eq_nI (by omega) (by rw [Int64.toInt_toInt32, Int64.toInt_add, Int32.toInt_toInt64, nI_int (by omega), hy, bmod64 (by omega) (by omega), bmod32 (by omega) (by omega), h3])
  by_cases c1 : A < B
  · rw [if_pos c1]
    rw [Int64.lt_iff_toInt_lt, e1, e3] at c1
    by_cases c2 : A < -B
    · rw [if_pos c2]
      rw [Int64.lt_iff_toInt_lt, e1, e2] at c2
      exact add _ _ e2 (by omega) (by omega) (by rw [hq]; split <;> omega)
    · rw [if_neg c2]
      rw [Int64.lt_iff_toInt_lt, e1, e2] at c2
      exact add _ _ e1 (by omega) (by omega) (by rw [hq]; split <;> omega)
  · rw [if_neg c1]
    rw [Int64.lt_iff_toInt_lt, e1, e3] at c1
    have c2 : ¬ B < -B := by rw [Int64.lt_iff_toInt_lt, e2, e3]; omega
    rw [if_neg c2]
    exact add _ _ e3 (by omega) (by omega) (by rw [hq]; split <;> omega)
section BEAT
variable {z : Nat} {K : Ka} {b st nd nu nm : Nat}
theorem bt_in (N : Nat) (k124 : Int32 → Int32 → Ms → Option (Int32 × Ms)) (x1 x2 : Int32) {p g c : Nat → Nat} (hb : b = 0 ∨ b = 1) (hnd : nd ≤ 24) (hg : ∀ d, d < nd → p d ≤ 999999999 ∧ g d ≤ 999999999 ∧ c d ≤ 999999999) : ∀ (n i : Nat) (S : Ms), i ≤ nd → nd < n + i → mF S 11 = nI b → mA S 13 b = nI nd → (∀ d, d < nd → mA S 62 d = nI (g d) ∧ mA S 17 (24 * b + d) = nI (c d)) → (∀ d, i ≤ d → d < nd → mA S 61 d = nI (p d)) → (∀ d, d < i → mA S 61 d = nI (bp 1 (p d) (g d) (c d))) →
    ∃ S', lM_beat_37 N k124 n x1 x2 (nI i) S = k124 x1 x2 S' ∧ AgS (fun _ => True) (fun k => k ≠ 61) S S' ∧ ∀ d, d < nd → mA S' 61 d = nI (bp 1 (p d) (g d) (c d)) := by
  intro n
  induction n with
  | zero => intro i S h1 h2; omega
  | succ n ih =>
    intro i S h1 h2 hn h13 hgc hp hd
    rw [lM_beat_37, hn, ck_n (show b < 2 by omega) (by decide), nI_clamp (by omega), h13]
    by_cases hi : i < nd
    · obtain ⟨q1, q2, q3⟩ := hg i hi
      obtain ⟨r1, r2⟩ := hgc i hi
      have e24 : (24 : Int32) * nI b + nI i = nI (24 * b + i) := by rw [show (24 : Int32) = nI 24 from rfl, nI_mul, nI_add]
      rw [if_neg (show ¬ nI nd ≤ nI i from nI_ge hi (by omega)), e24, ck_n (show 24 * b + i < 48 by omega) (by decide), ck_n (show i < 24 by omega) (by decide), ck_n (show i < 24 by omega) (by decide), ck_n (show i < 24 by omega) (by decide), nI_clamp (show i < 2 ^ 31 by omega), nI_clamp (show 24 * b + i < 2 ^ 31 by omega), r1, r2, hp i (Nat.le_refl i) hi]
      have hz : ∀ y : Int32, bM_beat_116 N (lM_beat_37 N k124 n) k124 x1 x2 (nI i) (nI i) (nI (p i)) y S = lM_beat_37 N k124 n x1 x2 (nI (i + 1)) (pA S 61 i (nI (p i) + y)) := fun y => by
        unfold bM_beat_116
        rw [ck_n (show i < 24 by omega) (by decide), nI_clamp (by omega), nI_1]
      rw [hz, hz, hz]
      have hw : ∀ y : Int32, nI (p i) + y = nI (bp 1 (p i) (g i) (c i)) → ∃ S', lM_beat_37 N k124 n x1 x2 (nI (i + 1)) (pA S 61 i (nI (p i) + y)) = k124 x1 x2 S' ∧ AgS (fun _ => True) (fun k => k ≠ 61) S S' ∧ ∀ d, d < nd → mA S' 61 d = nI (bp 1 (p d) (g d) (c d)) := fun y hy => by
        rw [hy]
        obtain ⟨S', a1, a2, a3⟩ := ih (i + 1) (pA S 61 i (nI (bp 1 (p i) (g i) (c i)))) (by omega) (by omega) hn (by rw [mA_Ane _ _ _ (by decide)]; exact h13) (by rw [mA_Ane _ _ _ (by decide), mA_Ane _ _ _ (by decide)]; exact hgc)
          (fun d d1 d2 => by rw [mA_A, if_neg (fun q => by omega)]; exact hp d (by omega) d2)
          (fun d d1 => by
            rw [mA_A]
            by_cases ed : d = i
            · rw [if_pos ⟨rfl, ed⟩, ed]
            · rw [if_neg (fun q => ed q.2)]; exact hd d (by omega))
        exact ⟨S', a1, ⟨fun k hk => by rw [a2.1 k hk, mF_A], fun k hk => by rw [a2.2.1 k hk, mA_Ane _ _ _ hk], by rw [a2.2.2, mL_A]⟩, a3⟩
      have hr := bp_ref q1 q2 q3
      by_cases c1 : nI (g i) - nI (p i) ≤ nI (c i)
      · rw [if_pos c1] at hr ⊢
        by_cases c2 : -(nI (c i)) ≤ nI (g i) - nI (p i)
        · rw [if_pos c2] at hr ⊢
          exact hw _ hr
        · rw [if_neg c2] at hr ⊢
          exact hw _ hr
      · rw [if_neg c1] at hr ⊢
        exact hw _ hr
    · have e : i = nd := by omega
      subst e
      rw [if_pos (show nI i ≤ nI i from nI_le (Nat.le_refl i) (by omega))]
      exact ⟨S, rfl, ⟨fun _ _ => rfl, fun _ _ => rfl, rfl⟩, hd⟩
theorem bt_out (N : Nat) (hN : 24 < N) {p g c : Nat → Nat} {k : Nat} (hk : k ≤ 1000) (hb : b = 0 ∨ b = 1) (hnd : nd ≤ 24) (hg : ∀ d, d < nd → p d ≤ 999999999 ∧ g d ≤ 999999999 ∧ c d ≤ 999999999) : ∀ (n j : Nat) (S : Ms) (v : Int32), j ≤ k → k < n + j → mF S 11 = nI b → mA S 13 b = nI nd → (∀ d, d < nd → mA S 62 d = nI (g d) ∧ mA S 17 (24 * b + d) = nI (c d)) → (∀ d, d < nd → mA S 61 d = nI (bp j (p d) (g d) (c d))) → mF S 63 = v + nI j →
    ∃ S', lM_beat_20 N (bM_beat_130 N) n (nI k) (nI j) S = some (v + nI k, S') ∧ AgS (fun k => k ≠ 63) (fun k => k ≠ 61) S S' ∧ mF S' 63 = v + nI k ∧ ∀ d, d < nd → mA S' 61 d = nI (bp k (p d) (g d) (c d)) := by
  intro n
  induction n with
  | zero => intro j S v h1 h2; omega
  | succ n ih =>
    intro j S v h1 h2 hn h13 hgc hp hv
    rw [lM_beat_20]
    by_cases hj : j < k
    · rw [if_neg (show ¬ nI k ≤ nI j from nI_ge hj (by omega))]
      obtain ⟨S1, a1, a2, a3⟩ := bt_in N (bM_beat_124 N (lM_beat_20 N (bM_beat_130 N) n) (bM_beat_130 N)) (nI k) (nI j) (p := fun d => bp j (p d) (g d) (c d)) (g := g) (c := c) hb hnd (fun d hd => ⟨bp_le (hg d hd).1 (hg d hd).2.1, (hg d hd).2⟩) N 0 (pF S 63 (mF S 63 + 1)) (by omega) (by omega) hn h13 hgc (fun d _ hd => hp d hd) (fun d hd => by omega)
      have e1 : lM_beat_37 N (bM_beat_124 N (lM_beat_20 N (bM_beat_130 N) n) (bM_beat_130 N)) N (nI k) (nI j) 0 (pF S 63 (mF S 63 + 1)) = lM_beat_20 N (bM_beat_130 N) n (nI k) (nI (j + 1)) S1 := by
        rw [show (0 : Int32) = nI 0 from rfl, a1]
        unfold bM_beat_124
        rw [nI_1]
      have v1 : mF S1 63 = v + nI (j + 1) := by rw [a2.1 63 trivial, mF_F, if_pos rfl, hv, Int32.add_assoc, nI_1]
      obtain ⟨S', b1, b2, b3, b4⟩ := ih (j + 1) S1 v (by omega) (by omega) (by rw [a2.1 11 trivial]; exact hn) (by rw [a2.2.1 13 (by decide)]; exact h13) (by rw [a2.2.1 62 (by decide), a2.2.1 17 (by decide)]; exact hgc) (fun d hd => by rw [a3 d hd, bp_s]) v1
      refine ⟨S', by rw [e1, b1], ⟨fun q hq => by rw [b2.1 q hq, a2.1 q trivial, mF_F, if_neg hq], fun q hq => by rw [b2.2.1 q hq, a2.2.1 q hq, mA_F], by rw [b2.2.2, a2.2.2, mL_F]⟩, b3, b4⟩
    · have e : j = k := by omega
      subst e
      rw [if_pos (show nI j ≤ nI j from nI_le (Nat.le_refl j) (by omega))]
      refine ⟨S, ?_, ⟨fun _ _ => rfl, fun _ _ => rfl, rfl⟩, hv, hp⟩
      unfold bM_beat_130
      rw [hv]
end BEAT
