/-! taking tokens: both take the same, or both keep the same fault -/
theorem pF_self (S : Ms) (k : Nat) : pF S k (mF S k) = S := by
  show (upd S.1 k (S.1 k), S.2) = S
  have e : upd S.1 k (S.1 k) = S.1 := by
    funext j
    by_cases h : j = k
    · simp [upd, h]
    · simp [upd, h]
  rw [e]
theorem tb_r {α β : Type} (q : Ka × Cm) (k : α → Option (β ⊕ (Ka × Cm))) : tb (some (.inr q)) k = some (.inr q) := rfl
theorem tb_l {α β : Type} (v : α) (k : α → Option (β ⊕ (Ka × Cm))) : tb (some (.inl v)) k = k v := rfl
/-- a fault's number -/
def FLT (f : Nat) : Prop := 0 < f ∧ f ≤ 64100
theorem FLT.mk {w p : Nat} (hw : 1 ≤ w) (hw2 : w ≤ 16) (hp : p ≤ 4000) : FLT (w + 16 * p) := ⟨by omega, by omega⟩
theorem fl_nI (w p : Nat) : nI w + 16 * nI p = nI (w + 16 * p) := by rw [show (16 : Int32) = nI 16 from rfl, nI_mul, nI_add]
section LEAF
variable {z : Nat} {K : Ka} {M : Cm} {S : Ms} {size t a : Nat}
theorem rf_nI (h : PT z K M S size t a) (N : Nat) {w : Nat} (h1 : 1 ≤ w) (h2 : w ≤ 16) : ∃ f, FLT f ∧ fT_X3_refuse N (z + 7) (nI w) K M = some (.inr (K, wI M (z + 7) 5 (nI f))) ∧ fM_wrong N (nI w) S = some (pF S 8 (nI f)) := by
  obtain ⟨p, p1, p2, p3⟩ := rf_ok h N (nI w)
  rw [fl_nI] at p2 p3
  exact ⟨w + 16 * p, FLT.mk h1 h2 p1, p2, p3⟩
theorem t_yes (h : PT z K M S size t a) (N : Nat) {k : Int32} (hk : cI M (z + 3) a = k) (hl : a < t) : fT_X3_take N (z + 7) k K M = some (.inl (K, mv z M (a + 1))) := by
  obtain ⟨hLY, hT, h3, h4, h5, h6, h7, h8⟩ := h
  unfold fT_X3_take bT_X3_take_13
  rw [gd_k (hLY.k 7 4 0 rfl), if_pos (h7.trans hk), gd_k (hLY.k 7 4 0 rfl), h6, nI_1, mv_ok hLY hT N (by omega)]
  rfl
theorem t_no (h : PT z K M S size t a) (N : Nat) {k : Int32} {f : Nat} (hk : cI M (z + 3) a ≠ k) (hf : fT_X3_refuse N (z + 7) (nI 1) K M = some (.inr (K, wI M (z + 7) 5 (nI f)))) : fT_X3_take N (z + 7) k K M = some (.inr (K, wI M (z + 7) 5 (nI f))) := by
  obtain ⟨hLY, hT, h3, h4, h5, h6, h7, h8⟩ := h
  have hf' : fT_X3_refuse N (z + 7) 1 K M = some (.inr (K, wI M (z + 7) 5 (nI f))) := hf
  unfold fT_X3_take
  rw [gd_k (hLY.k 7 4 0 rfl), if_neg (fun q => hk (h7.symm.trans q)), hf']
  rfl
theorem l_sign (h : PT z K M S size t a) (N : Nat) {c : Nat} (h1 : 4 ≤ c) (h2 : c ≤ 126) : (cI M (z + 3) a = nI c ∧ a < t ∧ fT_X3_take N (z + 7) (nI c) K M = some (.inl (K, mv z M (a + 1))) ∧ fM_takeSign N (nI c) S = some (pF S 7 (nI (a + 1)))) ∨ (∃ f, FLT f ∧ fT_X3_take N (z + 7) (nI c) K M = some (.inr (K, wI M (z + 7) 5 (nI f))) ∧ fM_takeSign N (nI c) S = some (pF S 8 (nI f))) := by
  have h4 := h.2.2.2.1
  rcases k_sign h N h1 h2 with ⟨e, m⟩ | ⟨e, m⟩
  · left
    have hl : a < t := h.lt (by rw [e]; exact fun q => by have := (nI_eq (b := 0) (by omega) (by decide)).mp q; omega)
    refine ⟨e, hl, t_yes h N e hl, ?_⟩
    unfold fM_takeSign bM_takeSign_26
    rw [m, bs]
    dsimp only
    rw [if_neg (by decide), h4, nI_1]
  · right
    obtain ⟨f, f1, f2, f3⟩ := rf_nI h N (w := 1) (by omega) (by omega)
    refine ⟨f, f1, t_no h N e f2, ?_⟩
    have f3' : fM_wrong N 1 S = some (pF S 8 (nI f)) := f3
    unfold fM_takeSign bM_takeSign_26
    rw [m, bs]
    dsimp only
    rw [if_pos rfl, f3', bs]
theorem l_hasS (h : PT z K M S size t a) (N : Nat) {c : Nat} (h1 : 4 ≤ c) (h2 : c ≤ 126) : (cI M (z + 3) a = nI c ∧ a < t ∧ fM_hasSign N (nI c) S = some (1, pF S 7 (nI (a + 1)))) ∨ (cI M (z + 3) a ≠ nI c ∧ fM_hasSign N (nI c) S = some (0, S)) := by
  have h4 := h.2.2.2.1
  rcases k_sign h N h1 h2 with ⟨e, m⟩ | ⟨e, m⟩
  · left
    have hl : a < t := h.lt (by rw [e]; exact fun q => by have := (nI_eq (b := 0) (by omega) (by decide)).mp q; omega)
    refine ⟨e, hl, ?_⟩
    unfold fM_hasSign bM_hasSign_20
    rw [m, bs]
    dsimp only
    rw [if_neg (by decide), h4, nI_1]
    rfl
  · right
    refine ⟨e, ?_⟩
    unfold fM_hasSign bM_hasSign_20
    rw [m, bs]
    dsimp only
    rw [if_pos rfl, Int32.add_zero, pF_self]
    rfl
theorem l_hasW (h : PT z K M S size t a) (N : Nat) {w : Nat} (hw : w < 25) : (cI M (z + 3) a = nI (128 + w) ∧ a < t ∧ fM_hasWord N (nI w) S = some (1, pF S 7 (nI (a + 1)))) ∨ (cI M (z + 3) a ≠ nI (128 + w) ∧ fM_hasWord N (nI w) S = some (0, S)) := by
  have h4 := h.2.2.2.1
  rcases k_word h N hw with ⟨e, m⟩ | ⟨e, m⟩
  · left
    have hl : a < t := h.lt (by rw [e]; exact fun q => by have := (nI_eq (b := 0) (by omega) (by decide)).mp q; omega)
    refine ⟨e, hl, ?_⟩
    unfold fM_hasWord bM_hasWord_20
    rw [m, bs]
    dsimp only
    rw [if_neg (by decide), h4, nI_1]
    rfl
  · right
    refine ⟨e, ?_⟩
    unfold fM_hasWord bM_hasWord_20
    rw [m, bs]
    dsimp only
    rw [if_pos rfl, Int32.add_zero, pF_self]
    rfl
theorem l_word (h : PT z K M S size t a) (N : Nat) {w : Nat} (hw : w < 25) : (cI M (z + 3) a = nI (128 + w) ∧ a < t ∧ fT_X3_take N (z + 7) (nI (128 + w)) K M = some (.inl (K, mv z M (a + 1))) ∧ fM_takeWord N (nI w) S = some (pF S 7 (nI (a + 1)))) ∨ (∃ f, FLT f ∧ fT_X3_take N (z + 7) (nI (128 + w)) K M = some (.inr (K, wI M (z + 7) 5 (nI f))) ∧ fM_takeWord N (nI w) S = some (pF S 8 (nI f))) := by
  rcases l_hasW h N hw with ⟨e, hl, m⟩ | ⟨e, m⟩
  · left
    refine ⟨e, hl, t_yes h N e hl, ?_⟩
    unfold fM_takeWord bM_takeWord_13
    rw [m, bs]
    dsimp only
    rw [if_neg (by decide)]
  · right
    obtain ⟨f, f1, f2, f3⟩ := rf_nI h N (w := 1) (by omega) (by omega)
    refine ⟨f, f1, t_no h N e f2, ?_⟩
    have f3' : fM_wrong N 1 S = some (pF S 8 (nI f)) := f3
    unfold fM_takeWord bM_takeWord_13
    rw [m, bs]
    dsimp only
    rw [if_pos rfl, f3', bs]
theorem va_ok (h : PT z K M S size t a) (N : Nat) {j : Nat} (hj : j ≤ t) : fC_X6_valueAt N K (z + 1) (nI j) M = some (cL M (z + 5) j, M) := by
  obtain ⟨hLY, ⟨q1, q2, q3, -⟩, -⟩ := h
  unfold fC_X6_valueAt bC_X6_valueAt_22
  rw [if_neg (nI_pos (by omega)), gd_k (hLY.k 1 7 0 rfl), q3, if_pos (nI_lt (by omega) (by omega)), nn_s (hLY.r 1 3 5 (by decide)), gd_k (hLY.k 5 23 4001 rfl), hLY.l 5 23 4001 rfl (by decide), ck_n (show j < 4001 by omega) (by decide), nI_clamp (by omega)]
theorem ka_ok (h : PT z K M S size t a) (N : Nat) {j : Nat} (hj : j ≤ t) : fC_X6_kindAt N K (z + 1) (nI j) M = some (cI M (z + 3) j, M) := by
  obtain ⟨hLY, ⟨q1, q2, q3, -⟩, -⟩ := h
  unfold fC_X6_kindAt bC_X6_kindAt_22
  rw [if_neg (nI_pos (by omega)), gd_k (hLY.k 1 7 0 rfl), q3, if_pos (nI_lt (by omega) (by omega)), nn_s (hLY.r 1 1 3 (by decide)), gd_k (hLY.k 3 22 4001 rfl), hLY.l 3 22 4001 rfl (by decide), ck_n (show j < 4001 by omega) (by decide), nI_clamp (by omega)]
/-- a number's sort -/
theorem k_numb (h : PT z K M S size t a) : (cI M (z + 3) a = 3 ∧ mA S 4 a = 2 ∧ a < t ∧ ∃ q, q ≤ 999999999 ∧ cL M (z + 5) a = (nI q).toInt64 ∧ mL S 6 a = (nI q).toInt64) ∨ (cI M (z + 3) a ≠ 3 ∧ mA S 4 a ≠ 2) := by
  obtain ⟨hLY, ⟨q1, q2, q3, q4, q5, q6, q7, q8⟩, h3, h4, h5, h6, h7, h8⟩ := h
  have neq : ∀ m, m < 2 ^ 31 → m ≠ 3 → nI m ≠ 3 := fun m hm hne q => hne ((nI_eq (b := 3) hm (by omega)).mp q)
  by_cases e : a = t
  · subst e
    rw [q4, q6]
    exact Or.inr ⟨by decide, by decide⟩
  · obtain ⟨-, -, p⟩ := q8 a (by omega)
    rcases p with ⟨s1, s2, s3⟩ | ⟨s1, s2, s3, q, s4, s5⟩ | ⟨s1, d, d1, d2, d3, d4, d5⟩ | ⟨s1, s2⟩
    · right
      rw [s1]
      refine ⟨?_, by decide⟩
      rcases s3 with ⟨r, r1, r2, r3⟩ | ⟨-, r3⟩
      · rw [r3]; exact neq _ (by omega) (by omega)
      · rw [r3]; decide
    · left
      exact ⟨s2, s1, by omega, q, s4, s3.trans s5, s5⟩
    · right
      rw [s1, d4]
      exact ⟨neq d (by omega) (by omega), by decide⟩
    · right
      rw [s1, s2]
      exact ⟨by decide, by decide⟩
theorem lgc_lt {x y : Int64} : lg_cmp x y < 0 ↔ x < y := by
  unfold lg_cmp
  by_cases h : x > y
  · rw [if_pos h]
    exact ⟨fun q => absurd q (by decide), fun q => absurd (Int64.lt_trans h q) Int64.lt_irrefl⟩
  · rw [if_neg h]
    by_cases e : x = y
    · rw [if_pos e]; exact ⟨fun q => absurd q (by decide), fun q => by subst e; exact absurd q Int64.lt_irrefl⟩
    · rw [if_neg e]
      refine ⟨fun _ => ?_, fun _ => by decide⟩
      rw [Int64.lt_iff_toInt_lt]
      have h' : ¬ y.toInt < x.toInt := fun q => h (Int64.lt_iff_toInt_lt.mpr q)
      have e' : x.toInt ≠ y.toInt := fun q => e (Int64.toInt_inj.mp q)
      omega
theorem lgc_le {x y : Int64} : lg_cmp x y ≤ 0 ↔ ¬ y < x := by
  unfold lg_cmp
  by_cases h : x > y
  · rw [if_pos h]
    exact ⟨fun q => absurd q (by decide), fun q => absurd h q⟩
  · rw [if_neg h]
    by_cases e : x = y
    · rw [if_pos e]; exact ⟨fun _ => h, fun _ => by decide⟩
    · rw [if_neg e]; exact ⟨fun _ => h, fun _ => by decide⟩
theorem nL_lt {a b : Nat} (ha : a < 2 ^ 31) (hb : b < 2 ^ 31) : (nI a).toInt64 < (nI b).toInt64 ↔ a < b := by
  rw [Int64.lt_iff_toInt_lt, nL_int ha, nL_int hb]
  omega
theorem nL_32 {q : Nat} (h : q < 2 ^ 31) : ((nI q).toInt64).toInt32 = nI q := eq_nI h (by rw [Int64.toInt_toInt32, nL_int h, bmod32 (by omega) (by omega)])
theorem l_numb (h : PT z K M S size t a) (N : Nat) {lo hi : Nat} (hlo : lo < 2 ^ 31) (hhi : hi < 2 ^ 31) : (∃ q, lo ≤ q ∧ q ≤ hi ∧ q ≤ 999999999 ∧ cI M (z + 3) a = 3 ∧ a < t ∧ fT_X3_takeNumber N (z + 7) (nI lo) (nI hi) K M = some (.inl (nI q, K, mv z M (a + 1))) ∧ fM_takeNumber N (nI lo) (nI hi) S = some (nI q, pF S 7 (nI (a + 1)))) ∨ (∃ f, FLT f ∧ fT_X3_takeNumber N (z + 7) (nI lo) (nI hi) K M = some (.inr (K, wI M (z + 7) 5 (nI f))) ∧ fM_takeNumber N (nI lo) (nI hi) S = some (0, pF (pF S 8 (nI f)) 7 (nI (a + 1)))) := by
  obtain ⟨hLY, hT, h3, h4, h5, h6, h7, h8⟩ := id h
  have ha : a < 4002 := by have := hT.1; have := hT.2.1; omega
  have dead : ∀ f, FLT f → bM_takeNumber_70 N (pF S 8 (nI f)) = some (0, pF (pF S 8 (nI f)) 7 (nI (a + 1))) := fun f hf => by
    unfold bM_takeNumber_70 bM_takeNumber_103
    have e7 : mF (pF S 8 (nI f)) 7 = nI a := h4
    have e8 : mF (pF (pF S 8 (nI f)) 7 (nI (a + 1))) 8 = nI f := rfl
    rw [e7, nI_1, e8, if_neg (show ¬ nI f ≤ 0 from nI_ge (a := 0) hf.1 (by have := hf.2; omega))]
  have wr4 : ∃ f, FLT f ∧ fT_X3_refuse N (z + 7) 4 K M = some (.inr (K, wI M (z + 7) 5 (nI f))) ∧ fM_wrong N 4 S = some (pF S 8 (nI f)) := rf_nI h N (w := 4) (by omega) (by omega)
  rcases k_numb h with ⟨e1, e2, hl, q, g1, g2, g3⟩ | ⟨e1, e2⟩
  · have ve : fC_X6_valueAt N K (z + 1) (nI a) M = some ((nI q).toInt64, M) := by rw [va_ok h N h3, g2]
    have cls : fT_X3_takeNumber N (z + 7) (nI lo) (nI hi) K M = (if q < lo then bT_X3_takeNumber_39 N (z + 7) (nI q).toInt64 K M else if q ≤ hi then bT_X3_takeNumber_44 N (z + 7) (nI q).toInt64 K M else bT_X3_takeNumber_39 N (z + 7) (nI q).toInt64 K M) := by
      unfold fT_X3_takeNumber bT_X3_takeNumber_13
      rw [gd_k (hLY.k 7 4 0 rfl), if_pos (h7.trans e1), gd_k (hLY.k 7 4 0 rfl), nn_s (hLY.r 7 0 1 (by decide)), gd_k (hLY.k 1 7 0 rfl), h6, ve, bs]
      dsimp only
      by_cases c1 : q < lo
      · rw [if_pos c1, if_pos (lgc_lt.mpr ((nL_lt (by omega) hlo).mpr c1))]
      · rw [if_neg c1, if_neg (fun w => c1 ((nL_lt (by omega) hlo).mp (lgc_lt.mp w)))]
        by_cases c2 : q ≤ hi
        · rw [if_pos c2, if_pos (lgc_le.mpr (fun w => by have := (nL_lt hhi (by omega)).mp w; omega))]
        · rw [if_neg c2, if_neg (fun w => lgc_le.mp w ((nL_lt hhi (by omega)).mpr (by omega)))]
    have ref : fM_takeNumber N (nI lo) (nI hi) S = (if q < lo then bM_takeNumber_65 N S else if q ≤ hi then bM_takeNumber_70 N S else bM_takeNumber_65 N S) := by
      unfold fM_takeNumber bM_takeNumber_28
      rw [if_pos h5, h4, ck_n ha (by decide), nI_clamp (by omega), e2, if_pos rfl, if_pos h5, ck_n ha (by decide), ck_n ha (by decide), g3]
      by_cases c1 : q < lo
      · rw [if_pos c1, if_pos (lgc_lt.mpr ((nL_lt (by omega) hlo).mpr c1))]
      · rw [if_neg c1, if_neg (fun w => c1 ((nL_lt (by omega) hlo).mp (lgc_lt.mp w)))]
        by_cases c2 : q ≤ hi
        · rw [if_pos c2, if_pos (lgc_le.mpr (fun w => by have := (nL_lt hhi (by omega)).mp w; omega))]
        · rw [if_neg c2, if_neg (fun w => lgc_le.mp w ((nL_lt hhi (by omega)).mpr (by omega)))]
    have bad : ∃ f, FLT f ∧ bT_X3_takeNumber_39 N (z + 7) (nI q).toInt64 K M = some (.inr (K, wI M (z + 7) 5 (nI f))) ∧ bM_takeNumber_65 N S = some (0, pF (pF S 8 (nI f)) 7 (nI (a + 1))) := by
      obtain ⟨f, f1, f2, f3⟩ := wr4
      refine ⟨f, f1, ?_, ?_⟩
      · unfold bT_X3_takeNumber_39
        rw [gd_k (hLY.k 7 4 0 rfl), f2]
        rfl
      · unfold bM_takeNumber_65
        rw [f3, bs, dead f f1]
    by_cases c1 : q < lo
    · right
      rw [cls, ref, if_pos c1, if_pos c1]
      exact bad
    · by_cases c2 : q ≤ hi
      · left
        refine ⟨q, by omega, c2, g1, e1, hl, ?_, ?_⟩
        · rw [cls, if_neg c1, if_pos c2]
          unfold bT_X3_takeNumber_44
          rw [gd_k (hLY.k 7 4 0 rfl), h6, nI_1, mv_ok hLY hT N (by omega), bs, nL_32 (by omega)]
        · rw [ref, if_neg c1, if_pos c2]
          unfold bM_takeNumber_70 bM_takeNumber_103
          have e8 : mF (pF S 7 (nI (a + 1))) 8 = 0 := h5
          have e7 : mF (pF S 7 (nI (a + 1))) 7 = nI (a + 1) := rfl
          rw [h4, nI_1, e8, e7, if_pos (show (0 : Int32) ≤ 0 by decide), show (1 : Int32) = nI 1 from rfl, nI_sub (by omega) (by omega), show a + 1 - 1 = a by omega, ck_n ha (by decide), nI_clamp (by omega)]
          show some ((mL S 6 a).toInt32, _) = _
          rw [g3, nL_32 (by omega)]
      · right
        rw [cls, ref, if_neg c1, if_neg c1, if_neg c2, if_neg c2]
        exact bad
  · right
    obtain ⟨f, f1, f2, f3⟩ := rf_nI h N (w := 1) (by omega) (by omega)
    have f2' : fT_X3_refuse N (z + 7) 1 K M = some (.inr (K, wI M (z + 7) 5 (nI f))) := f2
    have f3' : fM_wrong N 1 S = some (pF S 8 (nI f)) := f3
    refine ⟨f, f1, ?_, ?_⟩
    · unfold fT_X3_takeNumber
      rw [gd_k (hLY.k 7 4 0 rfl), if_neg (fun w => e1 (h7.symm.trans w)), f2']
      rfl
    · unfold fM_takeNumber
      rw [if_pos h5, h4, ck_n ha (by decide), nI_clamp (by omega), if_neg e2, f3', bs, dead f f1]
end LEAF
