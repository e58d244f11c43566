/-! feed -/
theorem ch_ok : ∀ k, k ≤ 126 → vp_nar .char (((nI k).toUInt32 % 65536).toInt32) = nI k := by decide +kernel
section FEED
variable {z : Nat} {K : Ka} {M : Cm} {S : Ms} {b st nd nu nm : Nat}
theorem fd_app (h : RelP z K M S b st nd nu nm) {n c : Nat} (hn : n < 4000) (hc : c = 10 ∨ 32 ≤ c ∧ c ≤ 126) (g1 : cI M (z + 1) 5 = nI n) (g2 : mF S 2 = nI n) : RelP z K (wI (wI M (z + 2) n (nI c)) (z + 1) 5 (nI (n + 1))) (pF (pA S 1 n (nI c)) 2 (nI (n + 1))) b st nd nu nm := by
  have hM : AgM (fun a => a ≠ z + 1 ∧ a ≠ z + 2) M (wI (wI M (z + 2) n (nI c)) (z + 1) 5 (nI (n + 1))) := ⟨fun a ha => by rw [cI_wI_ne _ _ _ ha.1, cI_wI_ne _ _ _ ha.2], fun _ _ => rfl, rfl⟩
  have hS : AgS (fun k => k ≠ 2) (fun k => k ≠ 1) S (pF (pA S 1 n (nI c)) 2 (nI (n + 1))) := ⟨fun k hk => by rw [mF_F, if_neg hk, mF_A], fun k hk => by rw [mA_F, mA_Ane _ _ _ hk], fun _ _ => rfl⟩
  obtain ⟨h1, h2, h3, h4, h5, h6, h7, h8, h9, h10, h11, h12, h13, h14, h15, h16, h17, h18⟩ := h
  refine ⟨h1.sb hM, h2.sb hM hS (by omega) (by decide), ?_, h4.sb hM hS (by omega) (by decide), h5.sb hM hS (by omega) (by decide) (by decide), h6.sb hM hS (by omega) (by decide) (by decide), h7.sb hM hS (by omega) (by decide) (by decide), h8.sb hM hS (by omega) (by decide) (by decide), h9.sb hM hS (by omega) (by decide) (by decide), h10.sb hM hS (by omega) (by decide) (by decide), h11.sb hM hS (by omega) (by decide), h12.sb hM hS (by omega) (by decide), h13.sb hM hS (fun a ha => by omega) (by decide) (by decide), h14.sb hM hS (fun a ha => by omega) (by decide), h15.sb hM hS (fun a ha => by omega) (by omega) (by decide) (by decide), h16.sb hM hS (fun a ha => by omega) (by decide), h17.sb hM hS (fun a ha => by omega) (fun k _ _ => by omega), h18⟩
  obtain ⟨n', n4, t1, t2, t3⟩ := h3
  have e : n' = n := (nI_eq (by omega) (by omega)).mp (t1.symm.trans g1)
  subst e
  refine ⟨n' + 1, by omega, ?_, ?_, fun j hj => ?_⟩
  · rw [cI_w, if_pos ⟨rfl, rfl⟩]
  · rw [mF_F, if_pos rfl]
  · rw [mA_F, mA_A, cI_wI_ne _ _ _ (show z + 2 ≠ z + 1 by omega), cI_w]
    by_cases ej : j = n'
    · rw [if_pos ⟨rfl, ej⟩, if_pos ⟨rfl, ej⟩]
      exact ⟨rfl, c, hc, rfl⟩
    · rw [if_neg (fun q => ej q.2), if_neg (fun q => ej q.2)]
      exact t3 j (by omega)
theorem fd_fr {n : Nat} {x y u v : Int32} : FRQ z M (wI (wI M (z + 2) n x) (z + 1) 5 y) S (pF (pA S 1 n u) 2 v) := ⟨⟨fun a ha => by rw [cI_wI_ne _ _ _ (by omega), cI_wI_ne _ _ _ (by omega)], fun _ _ => rfl, rfl⟩, fun k hk => by rw [mF_F, if_neg (by omega), mF_A], fun k hk => by rw [mA_F, mA_Ane _ _ _ (by omega)], fun _ _ => rfl⟩
theorem fd_one (h : RelP z K M S b st nd nu nm) (N n : Nat) (x1 : Int64) {j : Nat} (hj : j < 2 ^ 31) : ∃ M1 S1, FRQ z M M1 S S1 ∧ RelP z K M1 S1 b st nd nu nm ∧ lC_X6_addBytes_3 N K (bC_X6_addBytes_88 N K) (n + 1) (z + 1) x1 (nI j) M = lC_X6_addBytes_3 N K (bC_X6_addBytes_88 N K) n (z + 1) x1 (nI j + (-8)) M1 ∧ lM_lay_3 N (bM_lay_75 N) (n + 1) x1 (nI j) S = lM_lay_3 N (bM_lay_75 N) n x1 (nI j + (-8)) S1 := by
  have hLY := h.1
  obtain ⟨sz, n4, t1, t2, t3⟩ := h.2.2.1
  rw [lC_X6_addBytes_3, lM_lay_3, if_neg (nI_pos hj), if_neg (nI_pos hj)]
  unfold bC_X6_addBytes_38 bC_X6_addBytes_42 bC_X6_addBytes_43 bC_X6_addBytes_82 bM_lay_38 bM_lay_69
  generalize ((x1 >>> ((nI j : Int32).toInt64 &&& 63) : Int64).toInt32) &&& 255 = c
  have app : ∀ k : Nat, (k = 10 ∨ 32 ≤ k ∧ k ≤ 126) → c = nI k → ∃ M1 S1, FRQ z M M1 S S1 ∧ RelP z K M1 S1 b st nd nu nm ∧ (if (1 : Int32) = 0 then lC_X6_addBytes_3 N K (bC_X6_addBytes_88 N K) n (z + 1) x1 (nI j + (-8)) M else (gd (kd K (z + 1) == 7) (if 4000 ≤ (cI M (z + 1) 5) then lC_X6_addBytes_3 N K (bC_X6_addBytes_88 N K) n (z + 1) x1 (nI j + (-8)) M else (nn (cR M (z + 1) 0) fun a1 => gd (kd K a1 == 21) (ck (cI M (z + 1) 5) (le K a1) (lC_X6_addBytes_3 N K (bC_X6_addBytes_88 N K) n (z + 1) x1 (nI j + (-8)) (wI (wI M a1 (cI M (z + 1) 5 : Int32).toNatClampNeg (vp_nar .char (((c : Int32).toUInt32 % 65536).toInt32))) (z + 1) 5 ((cI (wI M a1 (cI M (z + 1) 5 : Int32).toNatClampNeg (vp_nar .char (((c : Int32).toUInt32 % 65536).toInt32))) (z + 1) 5) + 1)))))))) = lC_X6_addBytes_3 N K (bC_X6_addBytes_88 N K) n (z + 1) x1 (nI j + (-8)) M1 ∧
      (if 4000 ≤ (mF S 2) then lM_lay_3 N (bM_lay_75 N) n x1 (nI j + (-8)) S else (ck (mF S 2) 4000 (lM_lay_3 N (bM_lay_75 N) n x1 (nI j + (-8)) (pF (pA S 1 (mF S 2 : Int32).toNatClampNeg c) 2 ((mF (pA S 1 (mF S 2 : Int32).toNatClampNeg c) 2) + 1))))) = lM_lay_3 N (bM_lay_75 N) n x1 (nI j + (-8)) S1 := by
    intro k hk hck
    rw [if_neg (show ¬ (1 : Int32) = 0 by decide), gd_k (hLY.k 1 7 0 rfl), t1, t2]
    by_cases h4 : 4000 ≤ sz
    · rw [if_pos (show (4000 : Int32) ≤ nI sz from nI_le (a := 4000) h4 (by omega)), if_pos (show (4000 : Int32) ≤ nI sz from nI_le (a := 4000) h4 (by omega))]
      exact ⟨M, S, FRQ.rf z M S, h, rfl, rfl⟩
    · have hlt : sz < 4000 := by omega
      rw [if_neg (show ¬ (4000 : Int32) ≤ nI sz from nI_ge (b := 4000) hlt (by decide)), if_neg (show ¬ (4000 : Int32) ≤ nI sz from nI_ge (b := 4000) hlt (by decide)), nn_s (hLY.r 1 0 2 (by decide)), gd_k (hLY.k 2 21 4000 rfl), hLY.l 2 21 4000 rfl (by decide), ck_n hlt (by decide), ck_n hlt (by decide), nI_clamp (by omega), hck, ch_ok k (by omega), cI_wI_ne _ _ _ (show z + 1 ≠ z + 2 by omega), t1, mF_A, t2, nI_1]
      exact ⟨_, _, fd_fr, fd_app h hlt hk t1 t2, rfl, rfl⟩
  by_cases c1 : c = 10
  · rw [if_pos c1, if_pos c1]
    exact app 10 (Or.inl rfl) c1
  · rw [if_neg c1, if_neg c1]
    by_cases c2 : c < 32
    · rw [if_pos c2, if_pos c2, if_pos rfl]
      exact ⟨M, S, FRQ.rf z M S, h, rfl, rfl⟩
    · rw [if_neg c2, if_neg c2]
      by_cases c3 : 126 < c
      · rw [if_pos c3, if_pos c3, if_pos rfl]
        exact ⟨M, S, FRQ.rf z M S, h, rfl, rfl⟩
      · rw [if_neg c3, if_neg c3]
        have c0 : ¬ c < 0 := fun q => c2 (Int32.lt_of_lt_of_le q (by decide))
        obtain ⟨k, hk, rfl⟩ := nI_of c0
        refine app k (Or.inr ⟨?_, ?_⟩) rfl
        · exact Nat.not_lt.mp fun q => c2 (nI_lt (b := 32) q (by decide))
        · exact Nat.not_lt.mp fun q => c3 (nI_lt (a := 126) q hk)
theorem fd_loop (N : Nat) (x1 : Int64) : ∀ (i n : Nat) (M : Cm) (S : Ms), i ≤ 7 → i + 1 < n → RelP z K M S b st nd nu nm → ∃ M' S', lC_X6_addBytes_3 N K (bC_X6_addBytes_88 N K) n (z + 1) x1 (nI (8 * i)) M = some M' ∧ lM_lay_3 N (bM_lay_75 N) n x1 (nI (8 * i)) S = some S' ∧ RelP z K M' S' b st nd nu nm ∧ FRQ z M M' S S' := by
  intro i
  induction i with
  | zero =>
    intro n M S hi hn h
    obtain ⟨n, rfl⟩ : ∃ k, n = k + 2 := ⟨n - 2, by omega⟩
    obtain ⟨M1, S1, f1, h1, e1, e2⟩ := fd_one h N (n + 1) x1 (j := 8 * 0) (by omega)
    have e8 : nI (8 * 0) + (-8) < 0 := by decide
    rw [e1, e2, lC_X6_addBytes_3, lM_lay_3, if_pos e8, if_pos e8]
    exact ⟨M1, S1, rfl, rfl, h1, f1⟩
  | succ i ih =>
    intro n M S hi hn h
    obtain ⟨n, rfl⟩ : ∃ k, n = k + 1 := ⟨n - 1, by omega⟩
    obtain ⟨M1, S1, f1, h1, e1, e2⟩ := fd_one h N n x1 (j := 8 * (i + 1)) (by omega)
    have e8 : nI (8 * (i + 1)) + (-8) = nI (8 * i) := by
      rw [show 8 * (i + 1) = 8 * i + 8 by omega, ← nI_add, Int32.add_assoc, show nI 8 + (-8) = 0 by decide, Int32.add_zero]
    rw [e1, e2, e8]
    obtain ⟨M', S', x1, x2, x3, x4⟩ := ih n M1 S1 (by omega) (by omega) h1
    exact ⟨M', S', x1, x2, x3, f1.tr x4⟩
theorem g_feed (h : RelP z K M S b st nd nu nm) (N : Nat) (hN : 136 < N) (v1 v2 v3 v4 v5 v6 : Int32) : ∃ M' S', fS_feed N z v1 v2 v3 v4 v5 v6 K M S = some (K, M', S') ∧ RelP z K M' S' b st nd nu nm ∧ FRQ z M M' S S' := by
  unfold fS_feed
  rw [gd_k h.1.k9]
  generalize (((v1 : Int32).toInt64) <<< ((32 : Int32).toInt64 &&& 63)) ||| (((v2 : Int32).toInt64) &&& 4294967295) = A
  generalize (((v3 : Int32).toInt64) <<< ((32 : Int32).toInt64 &&& 63)) ||| (((v4 : Int32).toInt64) &&& 4294967295) = B
  generalize (((v5 : Int32).toInt64) <<< ((32 : Int32).toInt64 &&& 63)) ||| (((v6 : Int32).toInt64) &&& 4294967295) = C
  obtain ⟨M1, S1, a1, b1, h1, q1⟩ := fd_loop N A 7 N M (pF S 0 0) (by omega) (by omega) (h.thr 0)
  obtain ⟨M2, S2, a2, b2, h2, q2⟩ := fd_loop N B 7 N M1 S1 (by omega) (by omega) h1
  obtain ⟨M3, S3, a3, b3, h3, q3⟩ := fd_loop N C 7 N M2 S2 (by omega) (by omega) h2
  have x1 : fC_X6_addBytes N K (z + 1) A M = some M1 := a1
  have x2 : fC_X6_addBytes N K (z + 1) B M1 = some M2 := a2
  have x3 : fC_X6_addBytes N K (z + 1) C M2 = some M3 := a3
  have y1 : fM_lay N A (pF S 0 0) = some S1 := b1
  have y2 : fM_lay N B S1 = some S2 := b2
  have y3 : fM_lay N C S2 = some S3 := b3
  have em : fM_feed N A B C S = some (mF S3 2, S3) := by
    unfold fM_feed
    rw [y1, bs, y2, bs, y3, bs]
  have ec : fC_X8_feed N K z A B C M = some (cI M3 (z + 1) 5, M3) := by
    unfold fC_X8_feed
    rw [gd_k h.1.k9, nn_s (h.1.r0 0 1 (by decide)), gd_k (h.1.k 1 7 0 rfl), x1, bs, nn_s (h1.1.r0 0 1 (by decide)), gd_k (h.1.k 1 7 0 rfl), x2, bs, nn_s (h2.1.r0 0 1 (by decide)), gd_k (h.1.k 1 7 0 rfl), x3, bs, nn_s (h3.1.r0 0 1 (by decide)), gd_k (h.1.k 1 7 0 rfl)]
  rw [ec, em]
  obtain ⟨n, -, t1, t2, -⟩ := h3.2.2.1
  exact ⟨M3, S3, fin (t1.trans t2.symm), h3, (FRQ.t0 z M S 0).tr ((q1.tr q2).tr q3)⟩
end FEED
