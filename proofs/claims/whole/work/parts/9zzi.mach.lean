/-! runs: the machine's single acts -/
theorem nI_p1 (n : Nat) : nI (n + 1) - 1 = nI n := by rw [← nI_1]; exact Int32.add_sub_cancel _ _
theorem bn_some {α : Type} (x : Option α) : (x.bind fun o => some o) = x := by cases x <;> rfl
section MACH
variable {z st : Nat} {K : Ka} {M : Cm} {S : Ms} {N : Nat}
theorem c_push (hL : LY z K M) (N : Nat) {sz : Nat} (h : cI M (z + 35) 7 = nI sz) (hs : sz < 850) (v : Int32) : fC_X2_push N K (z + 35) v M = some (wI (wI M (z + 37) sz v) (z + 35) 7 (nI (sz + 1))) := by
  unfold fC_X2_push bC_X2_push_32
  rw [gd_k (hL.k 35 3 0 rfl), nn_s (hL.r 35 3 37 (by decide)), gd_k (hL.k 37 22 850 rfl), hL.l 37 22 850 rfl (by decide), h, if_neg (nI_ge hs (by decide)), nn_s (hL.r 35 3 37 (by decide)), gd_k (hL.k 37 22 850 rfl), hL.l 37 22 850 rfl (by decide), ck_n hs (by decide), nI_clamp (by omega), cI_wI_ne _ _ _ (by omega), h, nI_1]
theorem c_pop (hL : LY z K M) (N : Nat) {sz : Nat} (h : cI M (z + 35) 7 = nI (sz + 1)) (hs : sz < 850) : fC_X2_pop N K (z + 35) M = some (cI M (z + 37) sz, wI M (z + 35) 7 (nI sz)) := by
  unfold fC_X2_pop
  rw [gd_k (hL.k 35 3 0 rfl), h, if_pos (show (0 : Int32) < nI (sz + 1) from nI_lt (a := 0) (by omega) (by omega)), nI_p1, nn_s (show cR (wI M (z + 35) 7 (nI sz)) (z + 35) 3 = some (z + 37) from hL.r 35 3 37 (by decide)), gd_k (hL.k 37 22 850 rfl), hL.l 37 22 850 rfl (by decide), cI_w, if_pos ⟨rfl, rfl⟩, ck_n hs (by decide), nI_clamp (by omega), cI_wI_ne _ _ _ (by omega)]
theorem m_push (N : Nat) {sz : Nat} (h : mF S 95 = nI sz) (hs : sz < 4000) (v : Int32) : fM_push N v S = some (pF (pA S 94 sz v) 95 (nI (sz + 1))) := by
  unfold fM_push
  rw [h, ck_n hs (by decide), nI_clamp (by omega), mF_A, h, nI_1]
theorem m_pop (N : Nat) {sz : Nat} (h : mF S 95 = nI (sz + 1)) (hs : sz < 4000) : fM_pop N S = some (mA S 94 sz, pF S 95 (nI sz)) := by
  unfold fM_pop
  rw [h, nI_p1, mF_F, if_pos rfl, ck_n hs (by decide), nI_clamp (by omega), mA_F]
theorem c_fail (hL : LY z K M) (N : Nat) {u : Nat} (hu : u < 24) (a c : Int32) : fC_X4_fail N K (z + 8) (nI u) a c M = some (wI (wI (wI M (z + 9) u 3) (z + 12) u a) (z + 13) u c) := by
  unfold fC_X4_fail
  rw [gd_k (hL.k 8 5 0 rfl), nn_s (hL.r 8 0 9 (by decide)), gd_k (hL.k 9 22 24 rfl), hL.l 9 22 24 rfl (by decide), ck_n hu (by decide), nI_clamp (by omega), nn_s (show cR (wI M (z + 9) u 3) (z + 8) 3 = some (z + 12) from hL.r 8 3 12 (by decide)), gd_k (hL.k 12 22 24 rfl), hL.l 12 22 24 rfl (by decide), ck_n hu (by decide), nn_s (show cR (wI (wI M (z + 9) u 3) (z + 12) u a) (z + 8) 4 = some (z + 13) from hL.r 8 4 13 (by decide)), gd_k (hL.k 13 22 24 rfl), hL.l 13 22 24 rfl (by decide), ck_n hu (by decide)]
def drC (z h : Nat) (M : Cm) : Cm := wR (wI M (z + 35) 6 (nI (h + 1))) (z + 35) 5 (some (z + 38 + 2 * h))
theorem c_drop (hL : LY z K M) (N : Nat) {h : Nat} (hh : h < 25) (h6 : cI M (z + 35) 6 = nI (h + 2)) : fC_X2_drop N K (z + 35) M = some (drC z h M) := by
  unfold fC_X2_drop drC
  rw [gd_k (hL.k 35 3 0 rfl), h6, nI_p1, nn_s (show cR (wI M (z + 35) 6 (nI (h + 1))) (z + 35) 2 = some (z + 36) from hL.r 35 2 36 (by decide)), gd_k (hL.k 36 25 25 rfl), hL.l 36 25 25 rfl (by decide), cI_w, if_pos ⟨rfl, rfl⟩, nI_p1, ck_n hh (by decide), nI_clamp (by omega), cR_I, (hL.2.2.1 h hh).1]
def enC (z h sz : Nat) (x q : Int32) (M : Cm) : Cm := wI (wI (wI (wI (wI (wI (wR M (z + 35) 5 (some (z + 38 + 2 * h))) (z + 38 + 2 * h) 1 x) (z + 38 + 2 * h) 2 q) (z + 38 + 2 * h) 3 0) (z + 38 + 2 * h) 4 (nI sz)) (z + 38 + 2 * h) 5 0) (z + 35) 6 (nI (h + 1))
theorem c_enter (hL : LY z K M) (N : Nat) {h sz : Nat} (hh : h < 25) (h6 : cI M (z + 35) 6 = nI h) (h7 : cI M (z + 35) 7 = nI sz) (x q : Int32) : fC_X2_enter N K (z + 35) x q M = some (enC z h sz x q M) := by
  unfold fC_X2_enter bC_X2_enter_48 fC_X1_open enC
  rw [gd_k (hL.k 35 3 0 rfl), nn_s (hL.r 35 2 36 (by decide)), gd_k (hL.k 36 25 25 rfl), hL.l 36 25 25 rfl (by decide), h6, if_neg (nI_ge hh (by decide)), nn_s (hL.r 35 2 36 (by decide)), gd_k (hL.k 36 25 25 rfl), hL.l 36 25 25 rfl (by decide), ck_n hh (by decide), nI_clamp (by omega), (hL.2.2.1 h hh).1, nn_s (show cR (wR M (z + 35) 5 (some (z + 38 + 2 * h))) (z + 35) 5 = some (z + 38 + 2 * h) by rw [cR_w, if_pos ⟨rfl, rfl⟩]), gd_k (hL.2.2.1 h hh).2.1, gd_k (hL.2.2.1 h hh).2.1, bs, cI_R, h7]
  rw [cI_wI_ne _ _ _ (by omega), cI_wI_ne _ _ _ (by omega), cI_wI_ne _ _ _ (by omega), cI_wI_ne _ _ _ (by omega), cI_wI_ne _ _ _ (by omega), cI_R, h6, nI_1]
/-- the class's loop behind t turns -/
def RN (N : Nat) (K : Ka) (z st t : Nat) (M : Cm) : Option Cm := lC_X2_run_55 N K (bC_X2_run_152 N K) (N - t) (z + 35) st (nI t) M
/-- .. and raise behind j frames -/
def RSE (N : Nat) (K : Ka) (z j : Nat) (a c : Int32) (M : Cm) : Option Cm := lC_X2_raise_7 N K (bC_X2_raise_24 N K) (bC_X2_raise_87 N K) (bC_X2_raise_146 N K) (N - j) (z + 35) a c (nI j) M
theorem c_raise (N : Nat) (K : Ka) (z : Nat) (a : Int32) (M : Cm) : fC_X2_raise N K (z + 35) a M = RSE N K z 0 a 0 M := rfl
theorem RN_end (hL : LY z K M) {t : Nat} (ht : t < N) (h : cI M (z + 35) 13 = 0) : RN N K z st t M = some M := by
  unfold RN
  obtain ⟨n, hn⟩ : ∃ n, N - t = n + 1 := ⟨N - t - 1, by omega⟩
  rw [hn, lC_X2_run_55]
  unfold bC_X2_run_152
  rw [gd_k (hL.k 35 3 0 rfl), if_pos h]
  split <;> rfl
/-- a word taken -/
theorem RN_step (hL : LY z K M) {t h q cc w f : Nat} {s : Int32} (ht : t < 1000000) (hN : 1000000 < N) (h13 : cI M (z + 35) 13 = 1) (hh : h < 25) (h5 : cR M (z + 35) 5 = some (z + 38 + 2 * h)) (hs : kd K st = 6) (h2 : cI M (z + 38 + 2 * h) 2 = nI q) (hcc : cI M st 13 = nI cc) (hq : q < cc) (hc8 : cc ≤ 8000) (h9 : cR M st 9 = some (st + 10)) (hk : kd K (st + 10) = 23) (hl : cc ≤ le K (st + 10)) (hl2 : le K (st + 10) < 2 ^ 31) (hw : cL M (st + 10) q = wd (nI w) (nI f) s) (hw2 : w < 256) (hf : f < 16777216) :
    RN N K z st t M = (fC_X2_perform N K (z + 35) (nI w) (nI f) s (wI M (z + 38 + 2 * h) 2 (nI (q + 1)))).bind (RN N K z st (t + 1)) := by
  unfold RN
  obtain ⟨n, hn⟩ : ∃ n, N - t = n + 1 := ⟨N - t - 1, by omega⟩
  have hn' : N - (t + 1) = n := by omega
  rw [hn, hn', lC_X2_run_55]
  unfold bC_X2_run_105
  rw [if_neg (show ¬ (1000000 : Int32) ≤ nI t from nI_ge (b := 1000000) ht (by decide)), gd_k (hL.k 35 3 0 rfl), h13, if_neg (by decide), nn_s h5, gd_k (hL.2.2.1 h hh).2.1, h2, if_neg (show ¬ nI q < 0 from fun x => absurd (nI_ge0 (k := q) (by omega)) (by
    intro y
    exact absurd x (Int32.not_lt.mpr y))), gd_k hs, hcc, if_neg (nI_ge hq (by omega)), nn_s h9, gd_k hk, ck_n (show q < le K (st + 10) by omega) hl2, nI_clamp (by omega), hw, gd_k (hL.k 35 3 0 rfl), nn_s h5, gd_k (hL.2.2.1 h hh).2.1, h2, wd_what hw2, wd_first hw2 hf, wd_second hw2, nI_1, nI_1]
theorem RSE_catch (hL : LY z K M) {j h m : Nat} {a c : Int32} (hj : j < 25) (hN : 100 < N) (hh : h < 25) (h5 : cR M (z + 35) 5 = some (z + 38 + 2 * h)) (ht : cI M (z + 38 + 2 * h) 5 = nI (m + 1)) (hm : m < 10) :
    RSE N K z j a c M = some (wI (wI (wI (wI M (z + 38 + 2 * h) 5 (nI m)) (z + 38 + 2 * h) 3 a) (z + 38 + 2 * h) 2 (cI M (z + 38 + 2 * h + 1) m)) (z + 35) 7 (cI M (z + 38 + 2 * h) 4)) := by
  unfold RSE
  obtain ⟨n, hn⟩ : ∃ n, N - j = n + 1 := ⟨N - j - 1, by omega⟩
  obtain ⟨f1, f2, f3, f4, f5⟩ := hL.2.2.1 h hh
  rw [hn, lC_X2_raise_7, if_neg (show ¬ (25 : Int32) ≤ nI j from nI_ge (b := 25) hj (by decide)), gd_k (hL.k 35 3 0 rfl), nn_s h5, gd_k f2, ht, if_neg (show ¬ nI (m + 1) ≤ 0 from nI_ge (a := 0) (by omega) (by omega))]
  unfold bC_X2_raise_24
  rw [gd_k (hL.k 35 3 0 rfl), nn_s h5, gd_k f2, ht, nI_p1, nn_s (show cR (wI M (z + 38 + 2 * h) 5 (nI m)) (z + 35) 5 = some (z + 38 + 2 * h) from h5), gd_k f2]
  rw [nn_s (show cR (wI (wI M (z + 38 + 2 * h) 5 (nI m)) (z + 38 + 2 * h) 3 a) (z + 35) 5 = some (z + 38 + 2 * h) from h5), gd_k f2, nn_s (show cR (wI (wI M (z + 38 + 2 * h) 5 (nI m)) (z + 38 + 2 * h) 3 a) (z + 35) 5 = some (z + 38 + 2 * h) from h5), gd_k f2, nn_s (show cR (wI (wI M (z + 38 + 2 * h) 5 (nI m)) (z + 38 + 2 * h) 3 a) (z + 38 + 2 * h) 0 = some (z + 38 + 2 * h + 1) from f5), gd_k f3, f4]
  have e5 : cI (wI (wI M (z + 38 + 2 * h) 5 (nI m)) (z + 38 + 2 * h) 3 a) (z + 38 + 2 * h) 5 = nI m := by rw [cI_w, if_neg (by omega), cI_w, if_pos ⟨rfl, rfl⟩]
  have e0 : cI (wI (wI M (z + 38 + 2 * h) 5 (nI m)) (z + 38 + 2 * h) 3 a) (z + 38 + 2 * h + 1) = cI M (z + 38 + 2 * h + 1) := by rw [cI_wI_ne _ _ _ (by omega), cI_wI_ne _ _ _ (by omega)]
  rw [e5, ck_n hm (by decide), nI_clamp (by omega), e0, nn_s (show cR (wI (wI M (z + 38 + 2 * h) 5 (nI m)) (z + 38 + 2 * h) 3 a) (z + 35) 5 = some (z + 38 + 2 * h) from h5), gd_k f2, nn_s (show cR (wI (wI (wI M (z + 38 + 2 * h) 5 (nI m)) (z + 38 + 2 * h) 3 a) (z + 38 + 2 * h) 2 (cI M (z + 38 + 2 * h + 1) m)) (z + 35) 5 = some (z + 38 + 2 * h) from h5), gd_k f2]
  rw [cI_w, if_neg (by omega), cI_w, if_neg (by omega), cI_w, if_neg (by omega)]
theorem RSE_top (hL : LY z K M) {j h : Nat} {a c : Int32} (hj : j < 25) (hN : 100 < N) (h0 : h = 0) (h5 : cR M (z + 35) 5 = some (z + 38 + 2 * h)) (h6 : cI M (z + 35) 6 = nI (h + 1)) (ht : cI M (z + 38 + 2 * h) 5 = 0) :
    RSE N K z j a c M = some (wI (wI (wI M (z + 35) 15 a) (z + 35) 16 c) (z + 35) 13 0) := by
  unfold RSE
  obtain ⟨n, hn⟩ : ∃ n, N - j = n + 1 := ⟨N - j - 1, by omega⟩
  obtain ⟨f1, f2, f3, f4, f5⟩ := hL.2.2.1 h (by omega)
  subst h0
  rw [hn, lC_X2_raise_7, if_neg (show ¬ (25 : Int32) ≤ nI j from nI_ge (b := 25) hj (by decide)), gd_k (hL.k 35 3 0 rfl), nn_s h5, gd_k f2, ht, if_pos (by decide), h6, if_neg (by decide)]
  unfold bC_X2_raise_87
  rw [gd_k (hL.k 35 3 0 rfl), gd_t (show is01 0 = true from rfl)]
/-- what a start that fails is told to have failed by -/
def fA (a : Int32) : Int32 := if a = 20 ∨ a = 21 then a else 20
def fB (a c : Int32) : Int32 := if a = 20 ∨ a = 21 then c else a
theorem RSE_drop (hL : LY z K M) {j h u : Nat} {a c : Int32} (hj : j < 25) (hN : 100 < N) (hh : h + 1 < 25) (hu : u < 24) (h5 : cR M (z + 35) 5 = some (z + 38 + 2 * (h + 1))) (h6 : cI M (z + 35) 6 = nI (h + 2)) (ht : cI M (z + 38 + 2 * (h + 1)) 5 = 0) (h1 : cI M (z + 38 + 2 * (h + 1)) 1 = nI u) :
    RSE N K z j a c M = RSE N K z (j + 1) (fA a) (fB a c) (drC z h (wI (wI (wI M (z + 9) u 3) (z + 12) u (fA a)) (z + 13) u (fB a c))) := by
  unfold RSE
  obtain ⟨n, hn⟩ : ∃ n, N - j = n + 1 := ⟨N - j - 1, by omega⟩
  have hn' : N - (j + 1) = n := by omega
  obtain ⟨f1, f2, f3, f4, f5⟩ := hL.2.2.1 (h + 1) hh
  have key : ∀ a' c', bC_X2_raise_120 N K (lC_X2_raise_7 N K (bC_X2_raise_24 N K) (bC_X2_raise_87 N K) (bC_X2_raise_146 N K) n) (bC_X2_raise_24 N K) (bC_X2_raise_87 N K) (bC_X2_raise_146 N K) (z + 35) a' c' (nI j) M = lC_X2_raise_7 N K (bC_X2_raise_24 N K) (bC_X2_raise_87 N K) (bC_X2_raise_146 N K) n (z + 35) a' c' (nI (j + 1)) (drC z h (wI (wI (wI M (z + 9) u 3) (z + 12) u a') (z + 13) u c')) := fun a' c' => by
    unfold bC_X2_raise_120
    have hL' : LY z K (wI (wI (wI M (z + 9) u 3) (z + 12) u a') (z + 13) u c') := hL
    rw [gd_k (hL.k 35 3 0 rfl), nn_s h5, gd_k f2, nn_s (hL.r 35 0 8 (by decide)), gd_k (hL.k 8 5 0 rfl), h1, c_fail hL N hu, bs, c_drop hL' N (h := h) (by omega) (by rw [cI_wI_ne _ _ _ (by omega), cI_wI_ne _ _ _ (by omega), cI_wI_ne _ _ _ (by omega)]; exact h6), bs, nI_1]
  rw [hn, hn', lC_X2_raise_7, if_neg (show ¬ (25 : Int32) ≤ nI j from nI_ge (b := 25) hj (by decide)), gd_k (hL.k 35 3 0 rfl), nn_s h5, gd_k f2, ht, if_pos (by decide), h6, if_pos (show (1 : Int32) < nI (h + 2) from nI_lt (a := 1) (by omega) (by omega)), key, key]
  unfold fA fB
  by_cases e1 : a = 20
  · rw [if_pos e1, if_pos (Or.inl e1), if_pos (Or.inl e1)]
  · rw [if_neg e1]
    by_cases e2 : a = 21
    · rw [if_pos e2, if_pos (Or.inr e2), if_pos (Or.inr e2)]
    · rw [if_neg e2, if_neg (fun q => q.elim e1 e2), if_neg (fun q => q.elim e1 e2)]
end MACH
