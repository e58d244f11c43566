/-! station as a whole -/
section GSTATION
variable {z b st nd nu nm : Nat} {K : Ka} {M : Cm} {S : Ms}
/-- what a new station leaves -/
def NST (z b : Nat) (K K' : Ka) (M' : Cm) (S S' : Ms) : Prop := ∃ nd nu nm, RelP z K' M' S' (1 - b) (kz K) nd nu nm ∧ CGE (kz K) (1 - b) nd nu nm K' M' S' ∧ mF S' 75 = 0 ∧ mF S' 79 = 0 ∧ mF S' 84 = 0 ∧ mF S' 87 = 0 ∧ ∀ u, u < 24 → mA S' 54 u = 0 ∧ mA S' 55 u = 0 ∧ mA S' 60 u = 0
/-- what a wrong text leaves -/
def OST (z b st nd nu nm : Nat) (K' : Ka) (M' : Cm) (S S' : Ms) : Prop := RelP z K' M' S' b st nd nu nm ∧ CGE st b nd nu nm K' M' S' ∧ (∀ k, k = 64 ∨ k = 65 ∨ k = 75 ∨ k = 79 ∨ k = 84 ∨ k = 87 → mF S' k = mF S k) ∧ ∀ k, (54 ≤ k ∧ k ≤ 60) ∨ k = 72 ∨ k = 73 → mA S' k = mA S k
theorem AgA.w5 {M1 M2 : Cm} (h : AgA z K M1 M2) : AgA z K (wI M1 (z + 1) 5 0) (wI M2 (z + 1) 5 0) := by
  refine ⟨fun a ha hne => ⟨?_, (h.1 a ha hne).2⟩, fun a sl ha hne => h.2 a sl ha hne⟩
  funext j
  rw [cI_w, cI_w, (h.1 a ha hne).1]
theorem g_station (h : RelP z K M S b st nd nu nm) (cg : CGE st b nd nu nm K M S) {N : Nat} (hN : 8020 < N) :
    ∃ K' M' S', fS_station N z K M S = some (K', M', S') ∧ KE K K' ∧ kz K' ≤ kz K + 261 ∧ ku K' ≤ ku K + 12006 ∧ mF S' 65 = mF S 65 ∧ (NST z b K K' M' S S' ∨ OST z b st nd nu nm K' M' S S') := by
  obtain ⟨M1, S1, size, t, a1, a2, a3, a4, a5, a6⟩ := scan_ok (h.thr 0) N (by omega)
  have old1 := scan_rel (h.thr 0) a4 a5 a6
  obtain ⟨o1, o2, o3, o4, o5, o6, o7, o8, o9, o10, o11, o12, o13, o14, o15, o16, o17, o18⟩ := id h
  obtain ⟨g1, g2, g3, g4, g5, g6, g7, g8, -⟩ := id o13
  have LY1 : LY z K M1 := o1.sb a4
  have hz : z + 174 ≤ kz K := o18.2.2
  obtain ⟨K2, M2, S2, c1, c2, c3, c4, c5⟩ := ts_0 (z := z) (b := b) (size := size) (t := t) (K := K) (M := M1) (S := S1) LY1 hz g1 (by rw [a5.1 11 (by decide)]; exact g2) a3 (fun j => by rw [a5.2.2 10 (by decide)]; exact o4.2 j) N (by omega)
  have t4 : t ≤ 4000 := by have := a3.1; have := a3.2.1; omega
  have mk := mk_lp (N := N) (z := z) (b := b) (bn := 1 - b) (sm := kz K) (size := size) (t := t) (K0 := K) (M0 := M1) (S0 := S1) (by omega) N N K2 M2 S2 0 0 0 [] 0 0 0 0 (by omega) (by omega) (Nat.le_refl _) c5 c3 c4
  have e0 : (nI 0) = (0 : Int32) := rfl
  rw [e0, ← c1, ← c2 S a2] at mk
  have cls : fT_X8_station N z K M = tk (fT_X3_make N (z + 7) K M1) (fun r => bT_X8_station_23 N z (some r.1) r.2.1 r.2.2) (fun q => bT_X8_station_23 N z none (kX q.1) q.2) := by
    unfold fT_X8_station
    rw [gd_k o1.k9, nn_s (o1.r0 0 1 (by decide)), gd_k (o1.k 1 7 0 rfl), a1, bs, nn_s (LY1.r0 1 7 (by decide)), gd_k (o1.k 7 4 0 rfl)]
  have s65 : mF S1 65 = mF S 65 := by rw [a5.1 65 (by decide), mF_F, if_neg (by decide)]
  -- a wrong text
  have bad : FZ z b K M1 S1 (fT_X3_make N (z + 7) K M1) (fM_station N S) → ∃ K' M' S', fS_station N z K M S = some (K', M', S') ∧ KE K K' ∧ kz K' ≤ kz K + 261 ∧ ku K' ≤ ku K + 12006 ∧ mF S' 65 = mF S 65 ∧ (NST z b K K' M' S S' ∨ OST z b st nd nu nm K' M' S S') := fun hf => by
    obtain ⟨f, K', M', S', f1, f2, f3, f4, f5, f6, f7, f8⟩ := hf
    have KEx : KE K (kX K') := f3.1.tr (KE.kX K')
    have ao : ∀ k, bw k = 0 → ¬ (43 ≤ k ∧ k ≤ 47) → k ≠ 53 → mA S' k = mA S1 k := fun k q1 q2 q3 => funext fun j => f8.2.1 k j ⟨Or.inl q1, q2, q3⟩
    have af : ∀ k, OF k → k ≠ 0 → k ≠ 2 → k ≠ 3 → mF S' k = mF S k := fun k q0 q1 q2 q3 => by
      have w7 := q0.1
      have w8 := q0.2.1
      rw [f8.1 k q0, a5.1 k ⟨q2, q3, w7, w8⟩, mF_F, if_neg q1]
    have LYx : LY z (kX K') M' := LY1.old KEx f4 hz
    refine ⟨kX K', wI M' (z + 1) 5 0, S', ?_, KEx, ?_, ?_, ?_, Or.inr ⟨old1.old KEx f4.w5 f8, ?_, fun k hk => ?_, fun k hk => ?_⟩⟩
    · unfold fS_station
      rw [gd_k o1.k9, cls, f2, f6]
      show (bT_X8_station_23 N z none (kX K') M').bind _ = _
      unfold bT_X8_station_23 fC_X6_empty
      rw [gd_k LYx.k9, nn_s (LYx.r0 0 1 (by decide)), gd_k (LYx.k 1 7 0 rfl), gd_k (LYx.k 1 7 0 rfl), bs]
      dsimp only
      rw [cR_I, nn_s (LYx.r0 1 7 (by decide)), gd_k (LYx.k 7 4 0 rfl), bs, bs]
      dsimp only
      rw [cI_wI_ne _ _ _ (show z + 7 ≠ z + 1 by omega), f5]
      exact gd_t (beq_self_eq_true _)
    · have := f3.2.1
      show kz K' + 1 ≤ _
      omega
    · have := f3.2.2
      show ku K' + 6 ≤ _
      omega
    · rw [f8.1 65 (by unfold OF; decide)]; exact s65
    · refine cg.pw g7 g8 ⟨KEx, fun a h1 h2 _ => ?_, fun a h1 h2 => ?_, fun a h1 h2 => ?_⟩ ⟨fun k j k1 k2 _ hb => ?_, fun j hb => ?_⟩
      · rw [cI_wI_ne _ _ _ (by omega), (f4.1 a h2 (by omega)).1, a4.1 a (by omega)]
      · rw [cL_I, (f4.1 a h2 (by omega)).2, a4.2.1 a (by omega)]
      · funext sl
        rw [cR_I, f4.2 a sl h2 (by omega), a4.2.2]
      · rw [f8.2.1 k j ⟨Or.inr ⟨hb.2.1, hb.2.2⟩, by omega, by omega⟩, a5.2.1 k (by omega), mA_F]
      · rw [f8.2.2 26 j ⟨Or.inr ⟨hb.2.1, hb.2.2⟩, by decide, by decide⟩, a5.2.2 26 (by decide), mL_F]
    · refine af k ?_ (by omega) (by omega) (by omega)
      unfold OF
      omega
    · have hb : bw k = 0 := by
        unfold bw
        rw [if_neg (by omega), if_neg (by omega), if_neg (by omega), if_neg (by omega), if_neg (by omega), if_neg (by omega), if_neg (by omega)]
      rw [ao k hb (by omega) (by omega), a5.2.1 k (by omega), mA_F]
  rcases mk with ⟨K', M', S', nd', nu', nm', mk', rc', cc', d1, d2, d3, d4, d5⟩ | hf
  · rcases mk_all d5 d3 d4 hN with ⟨M3, S3, e1, e2, e3, e4, e5⟩ | hf
    · have kb := e5.1.1.2.2.2.2.2.1
      obtain ⟨M4, S4, n1, n2, n3, n4, n5, n6, n7, n7b, n8, n9, n10⟩ := new_rel (N := N) (old1.old kb.1 e3.w5 e4) e5 (by omega)
      refine ⟨K', M4, S4, ?_, kb.1, by have := kb.2.1; omega, by have := kb.2.2; omega, ?_, Or.inl ⟨nd', nu', nm', n3, n4, n5, n6, n7, n7b, n8⟩⟩
      · unfold fS_station
        rw [gd_k o1.k9, cls, d1, e1, d2, e2, n2]
        show (bT_X8_station_23 N z (some (kz K)) K' M3).bind _ = _
        rw [n1, bs, bs]
        rfl
      · rw [n9, e4.1 65 (by unfold OF; decide)]; exact s65
    · refine bad ?_
      rw [d1, d2]
      exact hf
  · exact bad hf
end GSTATION
