section PART
variable {z b bn sm size t nd nu nm iu : Nat} {ex : Nat → Nat → Prop} {K0 K : Ka} {M M' : Cm} {S S' : Ms} {mk : List Mk} {j : Jt} {rc cc a v rv dp w : Nat}
theorem num_ok (h : PT z K M S size t a) (N : Nat) (hk : cI M (z + 3) a = 3) : a < t ∧ mA S 4 a = 2 ∧ ∃ q, q ≤ 999999999 ∧ (mL S 6 a).toInt32 = nI q ∧ fT_X3_takeNumber N (z + 7) 0 999999999 K M = some (.inl (nI q, K, mv z M (a + 1))) := by
  rcases k_numb h with ⟨e1, e2, hl, q, g1, g2, g3⟩ | ⟨e1, e2⟩
  · refine ⟨hl, e2, q, g1, by rw [g3, nL_32 (by omega)], ?_⟩
    obtain ⟨hLY, hT, h3, h4, h5, h6, h7, h8⟩ := id h
    have ve : fC_X6_valueAt N K (z + 1) (nI a) M = some ((nI q).toInt64, M) := by rw [va_ok h N h3, g2]
    unfold fT_X3_takeNumber bT_X3_takeNumber_13
    rw [gd_k (hLY.k 7 4 0 rfl), if_pos (h7.trans e1), gd_k (hLY.k 7 4 0 rfl), nn_s (hLY.r 7 0 1 (by decide)), gd_k (hLY.k 1 7 0 rfl), h6, ve, bs]
    dsimp only
    have c1 : ¬ lg_cmp (nI q).toInt64 ((0 : Int32).toInt64) < 0 := fun w => by
      have := (nL_lt (a := q) (b := 0) (by omega) (by decide)).mp (lgc_lt.mp w)
      omega
    have c2 : lg_cmp (nI q).toInt64 ((999999999 : Int32).toInt64) ≤ 0 := lgc_le.mpr (fun w => by have := (nL_lt (a := 999999999) (b := q) (by decide) (by omega)).mp w; omega)
    rw [if_neg c1, if_pos c2]
    unfold bT_X3_takeNumber_44
    rw [gd_k (hLY.k 7 4 0 rfl), h6, nI_1, mv_ok hLY hT N (by omega), bs, nL_32 (by omega)]
  · exact absurd hk e1
/-- with these a PART begins -/
def PK (k : Int32) : Prop := k = 3 ∨ k = 40 ∨ k = 45 ∨ k = 150 ∨ k = 151 ∨ k = 152
theorem c_rnp1 (h : PS z b bn sm size t nd nu nm iu ex K0 K M S mk j rc cc a v rv dp) (hk : PK (cI M (z + 3) a)) (N : Nat) (x : Int32) : fT_X3_refuseNoPart N (z + 7) x K M = bT_X3_refuseNoPart_145 N (z + 7) x K M := by
  unfold fT_X3_refuseNoPart bT_X3_refuseNoPart_64 bT_X3_refuseNoPart_69 bT_X3_refuseNoPart_79 bT_X3_refuseNoPart_109 bT_X3_refuseNoPart_110
  rw [gd_k h.k7, gd_k h.k7, h.kn]
  rcases hk with q | q | q | q | q | q <;> rw [q] <;> repeat (first | rw [if_neg (by decide)] | rw [if_pos rfl] | rw [gd_k h.k7])
theorem c_rnp0 (h : PS z b bn sm size t nd nu nm iu ex K0 K M S mk j rc cc a v rv dp) (hk : ¬ PK (cI M (z + 3) a)) (h2 : cI M (z + 3) a ≠ 2) (N : Nat) (x : Int32) : fT_X3_refuseNoPart N (z + 7) x K M = tb (fT_X3_refuse N (z + 7) 1 K M) fun o76 => (bT_X3_refuseNoPart_79 N) (z + 7) x o76.1 o76.2 := by
  unfold fT_X3_refuseNoPart bT_X3_refuseNoPart_69
  unfold PK at hk
  rw [gd_k h.k7, h.kn, if_neg h2, if_neg (fun q => hk (Or.inl q)), if_neg (fun q => hk (Or.inr (Or.inl q))), if_neg (fun q => hk (Or.inr (Or.inr (Or.inl q)))), if_neg (fun q => hk (Or.inr (Or.inr (Or.inr (Or.inl q))))), if_neg (fun q => hk (Or.inr (Or.inr (Or.inr (Or.inr (Or.inl q)))))), if_neg (fun q => hk (Or.inr (Or.inr (Or.inr (Or.inr (Or.inr q)))))), if_pos rfl, gd_k h.k7]
theorem c_rnp2 (h : PS z b bn sm size t nd nu nm iu ex K0 K M S mk j rc cc a v rv dp) (hk : cI M (z + 3) a = 2) (hl : a < t) (N : Nat) (x : Int32) : fT_X3_refuseNoPart N (z + 7) x K M = if cI M (z + 3) (a + 1) = 46 then bT_X3_refuseNoPart_145 N (z + 7) x K M else bT_X3_refuseNoPart_110 N (z + 7) x 1 K M := by
  unfold fT_X3_refuseNoPart bT_X3_refuseNoPart_64 bT_X3_refuseNoPart_69 bT_X3_refuseNoPart_79 bT_X3_refuseNoPart_109
  have e : bT_X3_refuseNoPart_110 N (z + 7) x 0 K M = bT_X3_refuseNoPart_145 N (z + 7) x K M := by
    unfold bT_X3_refuseNoPart_110
    rw [if_pos rfl]
  rw [gd_k h.k7, h.kn, if_pos hk, if_neg (by decide), gd_k h.k7, if_pos hk, nn_s h.r70, gd_k h.k1, h.at, nI_1, ka_ok h.2.2.1 N (show a + 1 ≤ t by omega), bs]
  dsimp only
  rw [e]
theorem m_p46 (h : PS z b bn sm size t nd nu nm iu ex K0 K M S mk j rc cc a v rv dp) (N : Nat) (hN : 30 < N) (GP : Nat → Ms → Option Ms) : (PK (cI M (z + 3) a) ∨ cI M (z + 3) a = 2) ∧ bM_part_46 N GP S = bM_part_124 N GP 1 S ∨ ¬ (PK (cI M (z + 3) a) ∨ cI M (z + 3) a = 2) ∧ bM_part_46 N GP S = bM_part_124 N GP 0 S := by
  have ht := h.t4
  have p := h.2.2.1
  unfold bM_part_46 bM_part_119 bM_part_123
  rw [if_pos h.f0, h.m7, ck_n (show a < 4002 by omega) (by decide), nI_clamp (by omega)]
  rcases k_numb p with ⟨e1, e2, -⟩ | ⟨e1, e2⟩
  · rw [if_pos e2]; exact Or.inl ⟨Or.inl (Or.inl e1), rfl⟩
  rw [if_neg e2]
  rcases k_sign p N (c := 40) (by decide) (by decide) with ⟨f1, f2⟩ | ⟨f1, f2⟩
  · have f2' : fM_isSign N 40 S = some (1, S) := f2
    rw [f2', bs]; dsimp only; rw [if_neg (by decide)]; exact Or.inl ⟨Or.inl (Or.inr (Or.inl f1)), rfl⟩
  have f2' : fM_isSign N 40 S = some (0, S) := f2
  rw [f2', bs]; dsimp only; rw [if_pos rfl]
  rcases k_sign p N (c := 45) (by decide) (by decide) with ⟨g1, g2⟩ | ⟨g1, g2⟩
  · have g2' : fM_isSign N 45 S = some (1, S) := g2
    rw [g2', bs]; dsimp only; rw [if_neg (by decide)]; exact Or.inl ⟨Or.inl (Or.inr (Or.inr (Or.inl g1))), rfl⟩
  have g2' : fM_isSign N 45 S = some (0, S) := g2
  rw [g2', bs]; dsimp only; rw [if_pos rfl]
  rcases k_word p N (w := 22) (by decide) with ⟨i1, i2⟩ | ⟨i1, i2⟩
  · have i2' : fM_isWord N 22 S = some (1, S) := i2
    rw [i2', bs]; dsimp only; rw [if_neg (by decide)]; exact Or.inl ⟨Or.inl (Or.inr (Or.inr (Or.inr (Or.inl i1)))), rfl⟩
  have i2' : fM_isWord N 22 S = some (0, S) := i2
  rw [i2', bs]; dsimp only; rw [if_pos rfl]
  rcases k_word p N (w := 23) (by decide) with ⟨j1, j2⟩ | ⟨j1, j2⟩
  · have j2' : fM_isWord N 23 S = some (1, S) := j2
    rw [j2', bs]; dsimp only; rw [if_neg (by decide)]; exact Or.inl ⟨Or.inl (Or.inr (Or.inr (Or.inr (Or.inr (Or.inl j1))))), rfl⟩
  have j2' : fM_isWord N 23 S = some (0, S) := j2
  rw [j2', bs]; dsimp only; rw [if_pos rfl]
  rcases k_word p N (w := 24) (by decide) with ⟨l1, l2⟩ | ⟨l1, l2⟩
  · have l2' : fM_isWord N 24 S = some (1, S) := l2
    rw [l2', bs]; dsimp only; rw [if_neg (by decide)]; exact Or.inl ⟨Or.inl (Or.inr (Or.inr (Or.inr (Or.inr (Or.inr l1))))), rfl⟩
  have l2' : fM_isWord N 24 S = some (0, S) := l2
  rw [l2', bs]; dsimp only; rw [if_pos rfl]
  rcases k_name p N hN with ⟨n1, n2, -⟩ | ⟨n1, n2⟩
  · rw [n2, bs]; dsimp only; rw [if_neg (by decide)]; exact Or.inl ⟨Or.inr n1, rfl⟩
  · rw [n2, bs]; dsimp only; rw [if_pos rfl]
    refine Or.inr ⟨fun q => ?_, rfl⟩
    rcases q with (q | q | q | q | q | q) | q
    · exact e1 q
    · exact f1 q
    · exact g1 q
    · exact i1 q
    · exact j1 q
    · exact l1 q
    · exact n1 q
theorem deep_back (S : Ms) (f w : Nat) : pF (pF S 50 (nI w + 1)) 50 (mF (pF S 50 (nI w + 1)) 50 - 1) = pF S 50 (nI w) := by
  have e : mF (pF S 50 (nI w + 1)) 50 = nI w + 1 := rfl
  rw [e, pm1, pF_pF]
def RnpR (z b bn sm size t nd nu nm iu : Nat) (ex : Nat → Nat → Prop) (K0 K : Ka) (M : Cm) (S : Ms) (mk : List Mk) (j : Jt) (rc cc a v rv w N : Nat) (GP : Nat → Ms → Option Ms) : Prop :=
    (∃ S1, w < 10 ∧ (PK (cI M (z + 3) a) ∨ cI M (z + 3) a = 2) ∧ fT_X3_refuseNoPart N (z + 7) (nI w) K M = some (.inl (K, M)) ∧ FR z b sm K0 M M S S1 ∧ PS z b bn sm size t nd nu nm iu ex K0 K M S1 mk j rc cc a v rv (w + 1) ∧ fM_part N GP S = ((fM_emit N 1 0 0 S1).bind fun o138 => (GP 9 o138.2).bind fun o143 => bM_part_146 N GP o143)) ∨
    (∃ f S', FLT f ∧ fT_X3_refuseNoPart N (z + 7) (nI w) K M = some (.inr (K, wI M (z + 7) 5 (nI f))) ∧ fM_part N GP S = some S' ∧ DDs b bn rc S f S')
/-- a part begins, or both refuse -/
theorem rnp_ok (h : PS z b bn sm size t nd nu nm iu ex K0 K M S mk j rc cc a v rv w) (hw : w ≤ 10) (N : Nat) (hN : 30 < N) (GP : Nat → Ms → Option Ms) :
    RnpR z b bn sm size t nd nu nm iu ex K0 K M S mk j rc cc a v rv w N GP := by
  -- from a state S2 where a part may begin
  have go : ∀ S2, FR z b sm K0 M M S S2 → PS z b bn sm size t nd nu nm iu ex K0 K M S2 mk j rc cc a v rv w → (PK (cI M (z + 3) a) ∨ cI M (z + 3) a = 2) → fT_X3_refuseNoPart N (z + 7) (nI w) K M = bT_X3_refuseNoPart_145 N (z + 7) (nI w) K M → fM_part N GP S = bM_part_124 N GP 1 S2 → RnpR z b bn sm size t nd nu nm iu ex K0 K M S mk j rc cc a v rv w N GP := fun S2 fr h2 hk c r => by
    by_cases hw2 : w < 10
    · left
      refine ⟨pF S2 50 (nI (w + 1)), hw2, hk, ?_, fr.tr (FR.pF (Or.inl rfl) _), h2.dps (w + 1), ?_⟩
      · rw [c]
        unfold bT_X3_refuseNoPart_145 bT_X3_refuseNoPart_156
        rw [if_pos (show nI w < 10 from nI_lt (b := 10) hw2 (by decide))]
      · rw [r]
        unfold bM_part_124 fM_within bM_within_26
        have d : mF S2 50 = nI w := h2.2.2.2.2.2.2.2.1
        rw [if_neg (by decide), d, if_neg (show ¬ nI w = 10 from fun q => by have := (nI_eq (b := 10) (by omega) (by decide)).mp q; omega), bs, nI_1, if_pos (h2.dps (w + 1)).f0]
    · right
      have e10 : w = 10 := by omega
      subst e10
      obtain ⟨f, f1, f2, f3⟩ := rf_nI h2.2.2.1 N (w := 5) (by omega) (by omega)
      have f2' : fT_X3_refuse N (z + 7) 5 K M = some (.inr (K, wI M (z + 7) 5 (nI f))) := f2
      have f3' : fM_wrong N 5 S2 = some (pF S2 8 (nI f)) := f3
      have d := h2.dds f1
      have dn : ¬ mF (pF (pF S2 8 (nI f)) 50 (nI 10 + 1)) 8 = 0 := d.1.n0
      have d2 := d.p50 (nI 10)
      refine ⟨f, pF (pF S2 8 (nI f)) 50 (nI 10), f1, ?_, ?_, d2.fr fr⟩
      · rw [c]
        unfold bT_X3_refuseNoPart_145
        rw [if_neg (by decide), gd_k h.k7, f2', tb_r]
      · rw [r]
        unfold bM_part_124 fM_within bM_within_26 bM_part_146
        have dd : mF S2 50 = nI 10 := h2.2.2.2.2.2.2.2.1
        rw [if_neg (by decide), dd, if_pos (by decide), f3', bs, bs]
        have e50 : mF (pF S2 8 (nI f)) 50 = nI 10 := dd
        rw [e50, if_neg dn, deep_back _ f 10]
  have bad : ∀ (S2 : Ms) (wr : Nat), 1 ≤ wr → wr ≤ 16 → FR z b sm K0 M M S S2 → PS z b bn sm size t nd nu nm iu ex K0 K M S2 mk j rc cc a v rv w → (∃ k : Ka × Cm → Option ((Ka × Cm) ⊕ (Ka × Cm)), fT_X3_refuseNoPart N (z + 7) (nI w) K M = tb (fT_X3_refuse N (z + 7) (nI wr) K M) k) → (∀ f, FLT f → fM_wrong N (nI wr) S2 = some (pF S2 8 (nI f)) → fM_part N GP S = some (pF (pF S2 8 (nI f)) 50 (nI w))) → RnpR z b bn sm size t nd nu nm iu ex K0 K M S mk j rc cc a v rv w N GP := fun S2 wr w1 w2 fr h2 c r => by
    right
    obtain ⟨f, f1, f2, f3⟩ := rf_nI h2.2.2.1 N (w := wr) w1 w2
    obtain ⟨k, c⟩ := c
    have d2 := (h2.dds f1).p50 (nI w)
    exact ⟨f, _, f1, by rw [c, f2, tb_r], r f f1 f3, d2.fr fr⟩
  have ht := h.t4
  have dd : mF S 50 = nI w := h.2.2.2.2.2.2.2.1
  rcases k_name h.2.2.1 N hN with ⟨n1, n2, n3, -⟩ | ⟨n1, n2⟩
  · have hl : a < t := h.2.2.1.lt (by rw [n1]; decide)
    have c2 := c_rnp2 h n1 hl N (nI w)
    rcases k_point h.2.2.1 hl N with ⟨p1, p2, p3⟩ | ⟨p1, p3⟩
    · rw [if_pos p1] at c2
      refine go S (FR.rf _ _ _ _ _ _) h (Or.inr n1) c2 ?_
      unfold fM_part
      rw [n2, bs]; dsimp only; rw [if_neg (by decide), p3, bs]; dsimp only; rw [if_neg (by decide)]
      rcases m_p46 h N hN GP with q | q
      · exact q.2
      · exact absurd (Or.inr n1) q.1
    · rw [if_neg p1] at c2
      have h49 : mF S 49 = nI iu - 1 := h.2.1.2.2.2.2.1
      have h4 : cI M (z + 7) 4 = nI iu - 1 := h.2.1.2.2.2.2.2.1
      have c110 : bT_X3_refuseNoPart_110 N (z + 7) (nI w) 1 K M = ((fC_X5_find N K sm (nI iu - 1) (mL S 6 a) M).bind fun o134 => if 0 ≤ o134.1 then ((bT_X3_refuseNoPart_145 N) (z + 7) (nI w) K o134.2) else (tb (fT_X3_refuse N (z + 7) 2 K o134.2) fun o142 => (bT_X3_refuseNoPart_145 N) (z + 7) (nI w) o142.1 o142.2)) := by
        unfold bT_X3_refuseNoPart_110
        rw [if_neg (by decide), gd_k h.k7, nn_s h.r70, nn_s h.r71, gd_k h.k1, h.at, va_ok h.2.2.1 N (show a ≤ t by omega), bs]
        dsimp only
        rw [gd_k h.ks, h4, n3]
      have ref : fM_part N GP S = if nI iu - 1 < 0 then bM_part_41 N GP S else ((fM_looks N (nI iu - 1) (mL S 6 a) S).bind fun o35 => if o35.1 = 0 then ((bM_part_41 N GP) o35.2) else ((bM_part_46 N GP) o35.2)) := by
        unfold fM_part
        rw [n2, bs]; dsimp only; rw [if_neg (by decide), p3, bs]; dsimp only
        rw [if_pos rfl, h49, h.m7, ck_n (show a < 4002 by omega) (by decide), nI_clamp (show a < 2 ^ 31 by omega)]
      have b41 : ∀ S2, PS z b bn sm size t nd nu nm iu ex K0 K M S2 mk j rc cc a v rv w → ∀ f, FLT f → fM_wrong N (nI 2) S2 = some (pF S2 8 (nI f)) → bM_part_41 N GP S2 = some (pF (pF S2 8 (nI f)) 50 (nI w)) := fun S2 h2 f f1 f3 => by
        have f3' : fM_wrong N 2 S2 = some (pF S2 8 (nI f)) := f3
        have d := h2.dds f1
        have dn : ¬ mF (pF (pF S2 8 (nI f)) 50 (nI w + 1)) 8 = 0 := d.1.n0
        have e50 : mF (pF S2 8 (nI f)) 50 = nI w := h2.2.2.2.2.2.2.2.1
        unfold bM_part_41 bM_part_46 bM_part_123 bM_part_124 bM_part_146
        rw [f3', bs, if_neg d.1.n0, d_within d.1, bs, e50, if_neg dn, deep_back _ f w]
      rcases h.look N hN (mL S 6 a) with ⟨u, y, s, r', hu, hy, hi, c, hpos, lk⟩ | ⟨c, hpos | ⟨hpos, r', lk⟩⟩
      · obtain ⟨h1, f1⟩ := h.own r' y s
        refine go _ f1 h1 (Or.inr n1) ?_ ?_
        · rw [c2, c110, c, bs]; dsimp only; rw [if_pos (nI_ge0 (by have := (slot_k h.2.1.2.2.1 hy hi).1; have := h.2.1.1.2.2.2.2.2.1; omega))]
        · rw [ref, if_neg hpos, lk, bs]; dsimp only; rw [if_neg (by decide)]
          rcases m_p46 h1 N hN GP with q | q
          · exact q.2
          · exact absurd (Or.inr n1) q.1
      · refine bad S 2 (by decide) (by decide) (FR.rf _ _ _ _ _ _) h ⟨_, by rw [c2, c110, c, bs]; dsimp only; rw [if_neg (by decide)]; rfl⟩ (fun f f1 f3 => ?_)
        rw [ref, if_pos hpos]
        exact b41 S h f f1 f3
      · refine bad _ 2 (by decide) (by decide) (FR.r53 r') (h.r53 r') ⟨_, by rw [c2, c110, c, bs]; dsimp only; rw [if_neg (by decide)]; rfl⟩ (fun f f1 f3 => ?_)
        rw [ref, if_neg hpos, lk, bs]; dsimp only; rw [if_pos rfl]
        exact b41 _ (h.r53 r') f f1 f3
  · have r0 : fM_part N GP S = bM_part_46 N GP S := by
      unfold fM_part
      rw [n2, bs]; dsimp only; rw [if_pos rfl]
    rcases m_p46 h N hN GP with ⟨q1, q2⟩ | ⟨q1, q2⟩
    · have q1' : PK (cI M (z + 3) a) := q1.elim id (fun q => absurd q n1)
      exact go S (FR.rf _ _ _ _ _ _) h q1 (c_rnp1 h q1' N _) (r0.trans q2)
    · refine bad S 1 (by decide) (by decide) (FR.rf _ _ _ _ _ _) h ⟨_, c_rnp0 h (fun q => q1 (Or.inl q)) n1 N _⟩ (fun f f1 f3 => ?_)
      have f3' : fM_wrong N 1 S = some (pF S 8 (nI f)) := f3
      have d := h.dds f1
      have dn : ¬ mF (pF (pF S 8 (nI f)) 50 (nI w + 1)) 8 = 0 := d.1.n0
      have e50 : mF (pF S 8 (nI f)) 50 = nI w := dd
      rw [r0, q2]
      unfold bM_part_124 fM_within bM_within_26 bM_part_146
      rw [if_pos rfl, f3', bs, bs, e50, if_neg dn, deep_back _ f w]
end PART
