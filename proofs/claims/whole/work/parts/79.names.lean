/-! after a fault the reference takes nothing more -/
def DS (S : Ms) (f : Nat) : Prop := FLT f ∧ mF S 8 = nI f
theorem DS.n0 {S : Ms} {f : Nat} (h : DS S f) : ¬ mF S 8 = 0 := by
  rw [h.2]
  exact fun q => by have := (nI_eq (b := 0) (by have := h.1.2; omega) (by decide)).mp q; have := h.1.1; omega
theorem DS.n1 {S : Ms} {f : Nat} (h : DS S f) : ¬ mF S 8 ≤ 0 := by
  rw [h.2]
  exact nI_ge (a := 0) h.1.1 (by have := h.1.2; omega)
theorem d_wrong {S : Ms} {f : Nat} (h : DS S f) (N : Nat) (w : Int32) : fM_wrong N w S = some S := by
  unfold fM_wrong bM_wrong_25
  rw [if_neg h.n0]
theorem d_isS {S : Ms} {f : Nat} (h : DS S f) (N : Nat) (c : Int32) : fM_isSign N c S = some (0, S) := by
  unfold fM_isSign bM_isSign_39 bM_isSign_40
  rw [if_neg h.n0]
  rfl
theorem d_isW {S : Ms} {f : Nat} (h : DS S f) (N : Nat) (c : Int32) : fM_isWord N c S = some (0, S) := by
  unfold fM_isWord bM_isWord_43 bM_isWord_44
  rw [if_neg h.n0]
  rfl
theorem d_isN {S : Ms} {f : Nat} (h : DS S f) (N : Nat) (hN : 1 < N) : fM_isName N S = some (0, S) := by
  unfold fM_isName bM_isName_24 bM_isName_25
  rw [if_neg h.n0]
  obtain ⟨n, rfl⟩ : ∃ n, N = n + 1 := ⟨N - 1, by omega⟩
  rw [lM_isName_28, if_neg (by decide), if_pos rfl]
  rfl
theorem d_tS {S : Ms} {f : Nat} (h : DS S f) (N : Nat) (c : Int32) : fM_takeSign N c S = some S := by
  unfold fM_takeSign bM_takeSign_26
  rw [d_isS h, bs]
  dsimp only
  rw [if_pos rfl, d_wrong h, bs]
theorem d_hS {S : Ms} {f : Nat} (h : DS S f) (N : Nat) (c : Int32) : fM_hasSign N c S = some (0, S) := by
  unfold fM_hasSign bM_hasSign_20
  rw [d_isS h, bs]
  dsimp only
  rw [if_pos rfl, Int32.add_zero, pF_self]
  rfl
theorem d_hW {S : Ms} {f : Nat} (h : DS S f) (N : Nat) (c : Int32) : fM_hasWord N c S = some (0, S) := by
  unfold fM_hasWord bM_hasWord_20
  rw [d_isW h, bs]
  dsimp only
  rw [if_pos rfl, Int32.add_zero, pF_self]
  rfl
theorem d_tW {S : Ms} {f : Nat} (h : DS S f) (N : Nat) (c : Int32) : fM_takeWord N c S = some S := by
  unfold fM_takeWord bM_takeWord_13
  rw [d_hW h, bs]
  dsimp only
  rw [if_pos rfl, d_wrong h, bs]
theorem d_tN {S : Ms} {f : Nat} (h : DS S f) (N : Nat) (lo hi : Int32) : fM_takeNumber N lo hi S = some (0, pF S 7 (mF S 7 + 1)) := by
  unfold fM_takeNumber bM_takeNumber_28 bM_takeNumber_70 bM_takeNumber_103
  have e : ¬ mF (pF S 7 (mF S 7 + 1)) 8 ≤ 0 := h.n1
  rw [if_neg h.n0, if_neg h.n0, if_neg e]
/-! the names told so far -/
def NRow (K : Ka) (M : Cm) (S : Ms) (sm sl row base n : Nat) : Prop := ∃ a, cR M sm sl = some a ∧ kd K a = 23 ∧ n ≤ le K a ∧ le K a < 2 ^ 31 ∧ (∀ d, d < n → cL M a d = mL S row (base + d)) ∧ NM1 S row base n
def NN (z : Nat) (K : Ka) (M : Cm) (S : Ms) (bn sm nd nu nm : Nat) : Prop := (bn = 0 ∨ bn = 1) ∧ mF S 12 = nI bn ∧ cR M (z + 7) 1 = some sm ∧ kd K sm = 6 ∧ nd ≤ 24 ∧ nu ≤ 24 ∧ nm ≤ 20 ∧ cI M sm 10 = nI nd ∧ mA S 13 bn = nI nd ∧ cI M sm 11 = nI nu ∧ mA S 18 bn = nI nu ∧ cI M sm 12 = nI nm ∧ mA S 35 bn = nI nm ∧ NRow K M S sm 0 14 (24 * bn) nd ∧ NRow K M S sm 4 19 (24 * bn) nu ∧ NRow K M S sm 7 36 (20 * bn) nm
/-- without the demands' names: these the class counts ahead of a demand's BLOCK, the reference behind it -/
def NNw (z : Nat) (K : Ka) (M : Cm) (S : Ms) (bn sm nd nu nm : Nat) : Prop := (bn = 0 ∨ bn = 1) ∧ mF S 12 = nI bn ∧ cR M (z + 7) 1 = some sm ∧ kd K sm = 6 ∧ nd ≤ 24 ∧ nu ≤ 24 ∧ nm ≤ 20 ∧ cI M sm 10 = nI nd ∧ mA S 13 bn = nI nd ∧ cI M sm 11 = nI nu ∧ mA S 18 bn = nI nu ∧ NRow K M S sm 0 14 (24 * bn) nd ∧ NRow K M S sm 4 19 (24 * bn) nu
theorem NN.w {z : Nat} {K : Ka} {M : Cm} {S : Ms} {bn sm nd nu nm : Nat} (h : NN z K M S bn sm nd nu nm) : NNw z K M S bn sm nd nu nm := by
  obtain ⟨n1, n2, n3, n4, n5, n6, n7, n8, n9, n10, n11, n12, n13, n14, n15, n16⟩ := h
  exact ⟨n1, n2, n3, n4, n5, n6, n7, n8, n9, n10, n11, n14, n15⟩
section NAMES
variable {z : Nat} {K : Ka} {M : Cm} {S : Ms} {size t a bn sm nd nu nm : Nat}
/-- found by both at the same place, or by none -/
theorem NRow.find {sl row base n : Nat} (h : NRow K M S sm sl row base n) (N : Nat) (hN : n < N) (hs : srt row = 2) (hl2 : base + n ≤ lnM row) (hm2 : lnM row < 2 ^ 31) (x : Int64) : ∃ a, cR M sm sl = some a ∧ ((∃ k, k < n ∧ mL S row (base + k) = x ∧ fC_X8_rankOf N K x a (nI n) M = some (nI k, M) ∧ fM_find N row (nI base) (nI n) x S = some (nI k, S)) ∨ ((∀ k, k < n → mL S row (base + k) ≠ x) ∧ fC_X8_rankOf N K x a (nI n) M = some (-1, M) ∧ fM_find N row (nI base) (nI n) x S = some (-1, S))) := by
  obtain ⟨a, h1, hk, hl, hm, he, hn⟩ := h
  refine ⟨a, h1, ?_⟩
  rcases rk_ok N (M := M) x hk hl hm N 0 (by omega) (by omega) with ⟨r, r1, r2, r3, r4, r5⟩ | ⟨r1, r2⟩
  · rcases fd_ok N (S := S) x hs hl2 hm2 N 0 (-1) (by omega) (by omega) with ⟨r', s1, s2, s3, s4, s5⟩ | ⟨s1, s2⟩
    · have e : r = r' := hn.2 r r' r2 s2 (by rw [← he r r2, r3, s3])
      subst e
      exact Or.inl ⟨r, r2, s3, r5, s5⟩
    · exact absurd (by rw [← he r r2]; exact r3) (s1 r (by omega) r2)
  · rcases fd_ok N (S := S) x hs hl2 hm2 N 0 (-1) (by omega) (by omega) with ⟨r', s1', s2', s3, s4, s5⟩ | ⟨s1, s2⟩
    · exact absurd (by rw [he r' s2']; exact s3) (r1 r' (by omega) s2')
    · exact Or.inr ⟨fun k hk => s1 k (by omega) hk, r2, s2⟩
theorem e24b (b : Nat) : (24 : Int32) * nI b = nI (24 * b) := by rw [show (24 : Int32) = nI 24 from rfl, nI_mul]
theorem e20b (b : Nat) : (20 : Int32) * nI b = nI (20 * b) := by rw [show (20 : Int32) = nI 20 from rfl, nI_mul]
theorem nI_ge0 {k : Nat} (h : k < 2 ^ 31) : (0 : Int32) ≤ nI k := nI_le (a := 0) (by omega) h
/-- behind newName: one token on -/
theorem nn_122 (N : Nat) {S : Ms} {a : Nat} (ha : a < 4002) (h7 : mF S 7 = nI a) : bM_newName_122 N S = some (mL S 6 a, pF S 7 (nI (a + 1))) := by
  unfold bM_newName_122
  have e7 : mF (pF S 7 (nI (a + 1))) 7 = nI (a + 1) := rfl
  rw [h7, nI_1, e7, show (1 : Int32) = nI 1 from rfl, nI_sub (by omega) (by omega), show a + 1 - 1 = a by omega, ck_n ha (by decide), nI_clamp (by omega)]
  rfl
theorem l_new (h : PT z K M S size t a) (hn : NN z K M S bn sm nd nu nm) (N : Nat) (hN : 30 < N) : (∃ x, cI M (z + 3) a = 2 ∧ a < t ∧ (∀ r, r < 25 → x ≠ kwT r) ∧ (∀ k, k < nd → mL S 14 (24 * bn + k) ≠ x) ∧ (∀ k, k < nu → mL S 19 (24 * bn + k) ≠ x) ∧ (∀ k, k < nm → mL S 36 (20 * bn + k) ≠ x) ∧ fT_X3_takeNewName N (z + 7) K M = some (.inl (x, K, mv z M (a + 1))) ∧ fM_newName N S = some (x, pF S 7 (nI (a + 1)))) ∨ (∃ f, FLT f ∧ fT_X3_takeNewName N (z + 7) K M = some (.inr (K, wI M (z + 7) 5 (nI f))) ∧ fM_newName N S = some (mL S 6 a, pF (pF S 8 (nI f)) 7 (nI (a + 1)))) := by
  obtain ⟨hLY, hT, h3, h4, h5, h6, h7, h8⟩ := id h
  obtain ⟨n1, n2, n3, n4, n5, n6, n7, n8, n9, n10, n11, n12, n13, n14, n15, n16⟩ := hn
  have ha : a < 4002 := by have := hT.1; have := hT.2.1; omega
  have b2 : bn < 2 := by omega
  rcases k_name h N hN with ⟨e, m, v, kw⟩ | ⟨e, m⟩
  · have hl : a < t := h.lt (by rw [e]; decide)
    have ve : fC_X6_valueAt N K (z + 1) (nI a) M = some (mL S 6 a, M) := by rw [va_ok h N h3, v]
    have cls : fT_X3_takeNewName N (z + 7) K M = ((fC_X5_isTold N K sm (mL S 6 a) M).bind fun o30 => if o30.1 = 0 then ((bT_X3_takeNewName_41 N) (z + 7) (mL S 6 a) K o30.2) else (tb (fT_X3_refuse N (z + 7) 3 K o30.2) fun o38 => (bT_X3_takeNewName_41 N) (z + 7) (mL S 6 a) o38.1 o38.2)) := by
      unfold fT_X3_takeNewName bT_X3_takeNewName_13
      rw [gd_k (hLY.k 7 4 0 rfl), if_pos (h7.trans e), gd_k (hLY.k 7 4 0 rfl), nn_s (hLY.r 7 0 1 (by decide)), gd_k (hLY.k 1 7 0 rfl), h6, ve, bs]
      dsimp only
      rw [nn_s n3, gd_k n4]
    obtain ⟨a0, x0, y0⟩ := n14.find N (by omega) rfl (by show 24 * bn + nd ≤ 48; omega) (by decide) (mL S 6 a)
    obtain ⟨a4, x4, y4⟩ := n15.find N (by omega) rfl (by show 24 * bn + nu ≤ 48; omega) (by decide) (mL S 6 a)
    obtain ⟨a7, x7, y7⟩ := n16.find N (by omega) rfl (by show 20 * bn + nm ≤ 40; omega) (by decide) (mL S 6 a)
    have ref : fM_newName N S = ((fM_find N 14 (nI (24 * bn)) (nI nd) (mL S 6 a) S).bind fun o59 => if 0 ≤ o59.1 then ((bM_newName_117 N) o59.2) else (ck (mF o59.2 7) 4002 ((fM_findUnit N (mL o59.2 6 (mF o59.2 7 : Int32).toNatClampNeg) o59.2).bind fun o75 => if 0 ≤ o75.1 then ((bM_newName_117 N) o75.2) else (ck (mF o75.2 12) 2 (ck (mF o75.2 7) 4002 ((fM_find N 36 (20 * (mF o75.2 12)) (mA o75.2 35 (mF o75.2 12 : Int32).toNatClampNeg) (mL o75.2 6 (mF o75.2 7 : Int32).toNatClampNeg) o75.2).bind fun o111 => if o111.1 < 0 then ((bM_newName_122 N) o111.2) else ((bM_newName_117 N) o111.2))))))) := by
      unfold fM_newName
      rw [if_pos h5, m, bs]
      dsimp only
      rw [if_neg (by decide)]
      unfold bM_newName_22
      rw [if_pos h5, n2, h4, ck_n b2 (by decide), ck_n ha (by decide), nI_clamp (show a < 2 ^ 31 by omega), nI_clamp (show bn < 2 ^ 31 by omega), e24b, n9]
    have fu : fM_findUnit N (mL S 6 a) S = (fM_find N 19 (nI (24 * bn)) (nI nu) (mL S 6 a) S).bind fun o22 => some (o22.1, o22.2) := by
      unfold fM_findUnit
      rw [n2, ck_n b2 (by decide), nI_clamp (show bn < 2 ^ 31 by omega), e24b, n11]
    have bad : fC_X5_isTold N K sm (mL S 6 a) M = some (1, M) → fM_newName N S = bM_newName_117 N S → (∃ f, FLT f ∧ fT_X3_takeNewName N (z + 7) K M = some (.inr (K, wI M (z + 7) 5 (nI f))) ∧ fM_newName N S = some (mL S 6 a, pF (pF S 8 (nI f)) 7 (nI (a + 1)))) := fun c r => by
      obtain ⟨f, f1, f2, f3⟩ := rf_nI h N (w := 3) (by omega) (by omega)
      have f2' : fT_X3_refuse N (z + 7) 3 K M = some (.inr (K, wI M (z + 7) 5 (nI f))) := f2
      have f3' : fM_wrong N 3 S = some (pF S 8 (nI f)) := f3
      refine ⟨f, f1, ?_, ?_⟩
      · rw [cls, c, bs]
        dsimp only
        rw [if_neg (by decide), f2']
        rfl
      · rw [r]
        unfold bM_newName_117
        rw [f3', bs]
        exact nn_122 (S := pF S 8 (nI f)) N ha h4
    have told : ∀ (s0 : Int32), s0 = 0 ∨ s0 = 1 → bC_X5_isTold_50 N K sm s0 M = some (s0, M) := fun s0 hs => by
      unfold bC_X5_isTold_50
      rw [gd_01 hs]
    have it : fC_X5_isTold N K sm (mL S 6 a) M = ((fC_X8_rankOf N K (mL S 6 a) a0 (nI nd) M).bind fun o9 => if 0 ≤ o9.1 then ((bC_X5_isTold_45 N K) sm o9.2) else (nn (cR o9.2 sm 4) fun a2 => (fC_X8_rankOf N K (mL S 6 a) a2 (cI o9.2 sm 11) o9.2).bind fun o24 => if 0 ≤ o24.1 then ((bC_X5_isTold_45 N K) sm o24.2) else (nn (cR o24.2 sm 7) fun a3 => (fC_X8_rankOf N K (mL S 6 a) a3 (cI o24.2 sm 12) o24.2).bind fun o39 => if o39.1 < 0 then ((bC_X5_isTold_50 N K) sm 0 o39.2) else ((bC_X5_isTold_45 N K) sm o39.2)))) := by
      unfold fC_X5_isTold
      rw [gd_k n4, nn_s x0, n8]
    have e45 : bC_X5_isTold_45 N K sm M = some (1, M) := told 1 (Or.inr rfl)
    rcases y0 with ⟨k, k1, k2, k3, k4⟩ | ⟨k2, k3, k4⟩
    · right
      refine bad ?_ ?_
      · rw [it, k3, bs]
        dsimp only
        rw [if_pos (nI_ge0 (by omega)), e45]
      · rw [ref, k4, bs]
        dsimp only
        rw [if_pos (nI_ge0 (by omega))]
    · rcases y4 with ⟨l, l1, l2, l3, l4⟩ | ⟨l2, l3, l4⟩
      · right
        refine bad ?_ ?_
        · rw [it, k3, bs]
          dsimp only
          rw [if_neg (by decide), nn_s x4, n10, l3, bs]
          dsimp only
          rw [if_pos (nI_ge0 (by omega)), e45]
        · rw [ref, k4, bs]
          dsimp only
          rw [if_neg (by decide), h4, ck_n ha (by decide), nI_clamp (by omega), fu, l4, bs, bs]
          dsimp only
          rw [if_pos (nI_ge0 (by omega))]
      · rcases y7 with ⟨p, p1, p2, p3, p4⟩ | ⟨p2, p3, p4⟩
        · right
          refine bad ?_ ?_
          · rw [it, k3, bs]
            dsimp only
            rw [if_neg (by decide), nn_s x4, n10, l3, bs]
            dsimp only
            rw [if_neg (by decide), nn_s x7, n12, p3, bs]
            dsimp only
            rw [if_neg (nI_pos (by omega)), e45]
          · rw [ref, k4, bs]
            dsimp only
            rw [if_neg (by decide), h4, ck_n ha (by decide), nI_clamp (by omega), fu, l4, bs, bs]
            dsimp only
            rw [if_neg (by decide), n2, ck_n b2 (by decide), h4, ck_n ha (by decide), nI_clamp (show a < 2 ^ 31 by omega), nI_clamp (show bn < 2 ^ 31 by omega), e20b, n13, p4, bs]
            dsimp only
            rw [if_neg (nI_pos (by omega))]
        · left
          refine ⟨mL S 6 a, e, hl, kw, k2, l2, p2, ?_, ?_⟩
          · rw [cls, it, k3, bs]
            dsimp only
            rw [if_neg (by decide), nn_s x4, n10, l3, bs]
            dsimp only
            rw [if_neg (by decide), nn_s x7, n12, p3, bs]
            dsimp only
            rw [if_pos (by decide), told 0 (Or.inl rfl), bs]
            dsimp only
            rw [if_pos rfl]
            unfold bT_X3_takeNewName_41
            rw [gd_k (hLY.k 7 4 0 rfl), h6, nI_1, mv_ok hLY hT N (by omega), bs]
          · rw [ref, k4, bs]
            dsimp only
            rw [if_neg (by decide), h4, ck_n ha (by decide), nI_clamp (by omega), fu, l4, bs, bs]
            dsimp only
            rw [if_neg (by decide), n2, ck_n b2 (by decide), h4, ck_n ha (by decide), nI_clamp (show a < 2 ^ 31 by omega), nI_clamp (show bn < 2 ^ 31 by omega), e20b, n13, p4, bs]
            dsimp only
            rw [if_pos (by decide), nn_122 N ha h4]
  · right
    obtain ⟨f, f1, f2, f3⟩ := rf_nI h N (w := 1) (by omega) (by omega)
    have f2' : fT_X3_refuse N (z + 7) 1 K M = some (.inr (K, wI M (z + 7) 5 (nI f))) := f2
    have f3' : fM_wrong N 1 S = some (pF S 8 (nI f)) := f3
    refine ⟨f, f1, ?_, ?_⟩
    · unfold fT_X3_takeNewName
      rw [gd_k (hLY.k 7 4 0 rfl), if_neg (fun w => e (h7.symm.trans w)), f2']
      rfl
    · unfold fM_newName
      rw [if_pos h5, m, bs]
      dsimp only
      rw [if_pos rfl, f3', bs]
      exact nn_122 (S := pF S 8 (nI f)) N ha h4
end NAMES
