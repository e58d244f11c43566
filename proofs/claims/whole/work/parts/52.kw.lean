/-! letters, digits, the keywords' table -/
theorem bs {α β : Type} (a : α) (k : α → Option β) : (some a).bind k = k a := rfl
def isLb (c : Int32) : Int32 := if c < 97 then 0 else if 122 < c then 0 else 1
def isDb (c : Int32) : Int32 := if c < 48 then 0 else if 57 < c then 0 else 1
def wsg (c : Int32) : Int32 := if isLb c = 0 then (c - 48) + 27 else (c - 97) + 1
def rkb (c : Int32) : Int32 := if isLb c = 0 then c - 21 else c - 96
theorem isLb_01 (c : Int32) : is01 (isLb c) = true := by
  unfold isLb
  by_cases h : c < 97
  · rw [if_pos h]; rfl
  · rw [if_neg h]
    by_cases h2 : 122 < c
    · rw [if_pos h2]; rfl
    · rw [if_neg h2]; rfl
theorem x_isL (N : Nat) (K : Ka) (c : Int32) (M : Cm) : fC_X6_isLetter N K c M = some (isLb c, M) := by
  unfold fC_X6_isLetter isLb bC_X6_isLetter_16 bC_X6_isLetter_17
  by_cases h : c < 97
  · rw [if_pos h, if_pos h]; rfl
  · rw [if_neg h, if_neg h]
    by_cases h2 : 122 < c
    · rw [if_pos h2, if_pos h2]; rfl
    · rw [if_neg h2, if_neg h2]; rfl
theorem x_isD (N : Nat) (K : Ka) (c : Int32) (M : Cm) : fC_X6_isDigit N K c M = some (isDb c, M) := by
  unfold fC_X6_isDigit isDb bC_X6_isDigit_16 bC_X6_isDigit_17
  by_cases h : c < 48
  · rw [if_pos h, if_pos h]; rfl
  · rw [if_neg h, if_neg h]
    by_cases h2 : 57 < c
    · rw [if_pos h2, if_pos h2]; rfl
    · rw [if_neg h2, if_neg h2]; rfl
theorem m_isL (N : Nat) (c : Int32) (S : Ms) : fM_isLetter N c S = some (isLb c, S) := by
  unfold fM_isLetter isLb bM_isLetter_16 bM_isLetter_17
  by_cases h : c < 97
  · rw [if_pos h, if_pos h]; rfl
  · rw [if_neg h, if_neg h]
    by_cases h2 : 122 < c
    · rw [if_pos h2, if_pos h2]; rfl
    · rw [if_neg h2, if_neg h2]; rfl
theorem m_isD (N : Nat) (c : Int32) (S : Ms) : fM_isDigit N c S = some (isDb c, S) := by
  unfold fM_isDigit isDb bM_isDigit_16 bM_isDigit_17
  by_cases h : c < 48
  · rw [if_pos h, if_pos h]; rfl
  · rw [if_neg h, if_neg h]
    by_cases h2 : 57 < c
    · rw [if_pos h2, if_pos h2]; rfl
    · rw [if_neg h2, if_neg h2]; rfl
theorem c9_isL (N : Nat) (K : Ka) (c : Int32) (M : Cm) : fC_X9_isLetter N K c M = some (isLb c, M) := by
  unfold fC_X9_isLetter isLb bC_X9_isLetter_16 bC_X9_isLetter_17
  by_cases h : c < 97
  · rw [if_pos h, if_pos h]; rfl
  · rw [if_neg h, if_neg h]
    by_cases h2 : 122 < c
    · rw [if_pos h2, if_pos h2]; rfl
    · rw [if_neg h2, if_neg h2]; rfl
theorem ite_some {α : Type} {p : Prop} (h : Decidable p) (a b : α) : (if p then some a else some b) = some (if p then a else b) := by
  by_cases z : p
  · rw [if_pos z, if_pos z]
  · rw [if_neg z, if_neg z]
theorem x_ws (N : Nat) (K : Ka) (c : Int32) (M : Cm) : fC_X6_wordSign N K c M = some (wsg c, M) := by
  unfold fC_X6_wordSign
  rw [x_isL]
  show (if isLb c = 0 then some ((c - 48) + 27, M) else some ((c - 97) + 1, M)) = _
  unfold wsg
  by_cases h : isLb c = 0
  · rw [if_pos h, if_pos h]
  · rw [if_neg h, if_neg h]
theorem m_rk (N : Nat) (c : Int32) (S : Ms) : fM_rank N c S = some (rkb c, S) := by
  unfold fM_rank
  rw [m_isL]
  show (if isLb c = 0 then some (c - 21, S) else some (c - 96, S)) = _
  unfold rkb
  by_cases h : isLb c = 0
  · rw [if_pos h, if_pos h]
  · rw [if_neg h, if_neg h]
theorem c9_rk (N : Nat) (K : Ka) (c : Int32) (M : Cm) : fC_X9_rank N K c M = some (rkb c, M) := by
  unfold fC_X9_rank
  rw [c9_isL]
  show (if isLb c = 0 then some (c - 21, M) else some (c - 96, M)) = _
  unfold rkb
  by_cases h : isLb c = 0
  · rw [if_pos h, if_pos h]
  · rw [if_neg h, if_neg h]
theorem wsg_rkb (c : Int32) : wsg c = rkb c := by
  have e1 : (c - 48) + 27 = c - 21 := by
    rw [Int32.sub_eq_add_neg, Int32.sub_eq_add_neg, Int32.add_assoc]
    rfl
  have e2 : (c - 97) + 1 = c - 96 := by
    rw [Int32.sub_eq_add_neg, Int32.sub_eq_add_neg, Int32.add_assoc]
    rfl
  unfold wsg rkb
  rw [e1, e2]
/-! the text of the keywords -/
theorem sN0 : sN 0 = 136 := by decide +kernel
theorem kch_ok : ∀ i, i < 136 → ((((sB 0 i) &&& 255 : Int32).toUInt32 % 65536).toInt32) = sB 0 i ∧ isCh (sB 0 i) = true := by decide +kernel
theorem j_lat (N : Nat) (K : Ka) (M : Cm) : fC_J0_isLatin1_aae02 N K 0 M = some (1, M) := rfl
theorem j_len (N : Nat) (K : Ka) (M : Cm) : fC_J0_length_8abf5 N K 0 M = some (136, M) := by
  unfold fC_J0_length_8abf5
  rw [gd_t (by decide)]
  have e : fC_J0_coder_7d493 N K 0 M = some (0, M) := rfl
  rw [e]
  show some ((nI (sN 0)) >>> ((0 : Int32) &&& 31), M) = _
  rw [sN0]
  rfl
theorem j_chr (N : Nat) (K : Ka) (M : Cm) {i : Nat} (hi : i < 136) : fC_J0_charAt_5068e N K 0 (nI i) M = some (sB 0 i, M) := by
  obtain ⟨h1, h2⟩ := kch_ok i hi
  have hb : i < 2 ^ 31 := by omega
  have e : fC_J1_charAt_3b067 N K 0 (nI i) M = some (sB 0 i, M) := by
    unfold fC_J1_charAt_3b067 fC_J0_checkIndex_df160 fC_J3_checkIndex_8e157
    rw [gd_t (by decide), if_neg (nI_pos hb), sN0, if_pos (nI_lt hi (by omega))]
    show ck (nI i) 136 _ = _
    rw [ck_n hi (by omega), nI_clamp hb, h1, gd_t h2]
  unfold fC_J0_charAt_5068e
  rw [gd_t (by decide), j_lat]
  rw [bs]
  dsimp only
  rw [e, bs]
  dsimp only
  rw [gd_t h2]
  exact if_neg (by decide)
/-- behind i signs: how many keywords, the word so far, the table -/
def kwS : Nat → Nat × Int64 × (Nat → Int64)
  | 0 => (0, 0, fun _ => 0)
  | i + 1 => if sB 0 i = 32 then ((kwS i).1 + 1, 0, fun j => if j = (kwS i).1 then (kwS i).2.1 else (kwS i).2.2 j) else ((kwS i).1, (kwS i).2.1 * 37 + (wsg (sB 0 i)).toInt64, (kwS i).2.2)
def kwC : Nat → Nat
  | 0 => 0
  | i + 1 => if sB 0 i = 32 then kwC i + 1 else kwC i
theorem kwS_1 (i : Nat) : (kwS i).1 = kwC i := by
  induction i with
  | zero => rfl
  | succ i ih =>
    rw [kwS, kwC]
    by_cases h : sB 0 i = 32
    · rw [if_pos h, if_pos h, ih]
    · rw [if_neg h, if_neg h, ih]
theorem kwC_lt : ∀ i, i < 136 → kwC i < 25 := by decide +kernel
def kwT : Nat → Int64 := (kwS 136).2.2
theorem i6_loop (N : Nat) (K : Ka) (x0 a : Nat) (h0 : kd K x0 = 7) (h1 : kd K a = 23) (h2 : le K a = 25) : ∀ (n i : Nat) (M : Cm), i ≤ 136 → 136 < n + i → cR M x0 4 = some a → (∀ j, cL M a j = (kwS i).2.2 j) →
    ∃ M' : Cm, lT_X6_init_65 N (bT_X6_init_131 N) n x0 (nI (kwS i).1) (kwS i).2.1 (nI i) K M = some (.inl (K, M')) ∧ cI M' = cI M ∧ cR M' = cR M ∧ (∀ b, b ≠ a → cL M' b = cL M b) ∧ ∀ j, cL M' a j = kwT j := by
  intro n
  induction n with
  | zero => intro i M hi hn; omega
  | succ n ih =>
    intro i M hi hn hr hl
    rw [lT_X6_init_65, gd_t (by decide), j_len]
    show ∃ M' : Cm, (if (136 : Int32) ≤ nI i then _ else _) = _ ∧ _
    by_cases he : i = 136
    · subst he
      rw [if_pos (by decide)]
      exact ⟨M, rfl, rfl, rfl, fun _ _ => rfl, hl⟩
    · have hlt : i < 136 := by omega
      have hb : i < 2 ^ 31 := by omega
      rw [if_neg (show ¬ (136 : Int32) ≤ nI i from nI_ge hlt (by decide)), j_chr N K M hlt, bs]
      dsimp only
      have hk := kwC_lt i hlt
      rw [← kwS_1] at hk
      by_cases h32 : sB 0 i = 32
      · rw [if_pos h32, if_neg (show ¬ (25 : Int32) ≤ nI (kwS i).1 from nI_ge hk (by decide)), gd_k h0, nn_s hr, gd_k h1, h2, ck_n hk (by decide), nI_clamp (by omega)]
        unfold bT_X6_init_125
        have e : kwS (i + 1) = ((kwS i).1 + 1, 0, fun j => if j = (kwS i).1 then (kwS i).2.1 else (kwS i).2.2 j) := by rw [kwS, if_pos h32]
        obtain ⟨M', g1, g2, g3, g4, g5⟩ := ih (i + 1) (wL M a (kwS i).1 (kwS i).2.1) (by omega) (by omega) hr (fun j => by
          rw [cL_w, e]
          by_cases hj : j = (kwS i).1
          · rw [if_pos ⟨rfl, hj⟩]; simp [hj]
          · rw [if_neg (fun z => hj z.2)]; simp [hj, hl j])
        rw [e] at g1
        refine ⟨M', ?_, g2, g3, fun b hb2 => (g4 b hb2).trans (cL_wL_ne M _ _ hb2), g5⟩
        rw [nI_1, nI_1]
        exact g1
      · rw [if_neg h32, x_ws, bs]
        unfold bT_X6_init_125
        dsimp only
        have e : kwS (i + 1) = ((kwS i).1, (kwS i).2.1 * 37 + (wsg (sB 0 i)).toInt64, (kwS i).2.2) := by rw [kwS, if_neg h32]
        obtain ⟨M', g1, g2, g3, g4, g5⟩ := ih (i + 1) M (by omega) (by omega) hr (fun j => by rw [e]; exact hl j)
        rw [e] at g1
        refine ⟨M', ?_, g2, g3, g4, g5⟩
        rw [nI_1]
        exact g1
theorem i9_loop (N : Nat) (sa : Nat → Nat) (K : Ka) (x0 a : Nat) (h0 : kd K x0 = 10) (h1 : kd K a = 23) (h2 : le K a = 26) : ∀ (n i : Nat) (M : Cm), i ≤ 136 → 136 < n + i → cR M x0 10 = some a → (∀ j, cL M a j = (kwS i).2.2 j) →
    ∃ M' : Cm, lT_X9_init_624 N sa (bT_X9_init_684 N sa) n x0 (nI (kwS i).1) (kwS i).2.1 (nI i) K M = some (.inl (K, M')) ∧ cI M' = cI M ∧ cR M' = cR M ∧ (∀ b, b ≠ a → cL M' b = cL M b) ∧ ∀ j, cL M' a j = kwT j := by
  intro n
  induction n with
  | zero => intro i M hi hn; omega
  | succ n ih =>
    intro i M hi hn hr hl
    rw [lT_X9_init_624, gd_t (by decide), j_len]
    show ∃ M' : Cm, (if (136 : Int32) ≤ nI i then _ else _) = _ ∧ _
    by_cases he : i = 136
    · subst he
      rw [if_pos (by decide)]
      exact ⟨M, rfl, rfl, rfl, fun _ _ => rfl, hl⟩
    · have hlt : i < 136 := by omega
      have hb : i < 2 ^ 31 := by omega
      rw [if_neg (show ¬ (136 : Int32) ≤ nI i from nI_ge hlt (by decide)), j_chr N K M hlt, bs]
      dsimp only
      have hk := kwC_lt i hlt
      rw [← kwS_1] at hk
      by_cases h32 : sB 0 i = 32
      · rw [if_pos h32, gd_k h0, nn_s hr, gd_k h1, h2, ck_n (show (kwS i).1 < 26 by omega) (by decide), nI_clamp (by omega)]
        unfold bT_X9_init_678
        have e : kwS (i + 1) = ((kwS i).1 + 1, 0, fun j => if j = (kwS i).1 then (kwS i).2.1 else (kwS i).2.2 j) := by rw [kwS, if_pos h32]
        obtain ⟨M', g1, g2, g3, g4, g5⟩ := ih (i + 1) (wL M a (kwS i).1 (kwS i).2.1) (by omega) (by omega) hr (fun j => by
          rw [cL_w, e]
          by_cases hj : j = (kwS i).1
          · rw [if_pos ⟨rfl, hj⟩]; simp [hj]
          · rw [if_neg (fun z => hj z.2)]; simp [hj, hl j])
        rw [e] at g1
        refine ⟨M', ?_, g2, g3, fun b hb2 => (g4 b hb2).trans (cL_wL_ne M _ _ hb2), g5⟩
        rw [nI_1, nI_1]
        exact g1
      · rw [if_neg h32, c9_rk, bs]
        unfold bT_X9_init_678
        dsimp only
        have e : kwS (i + 1) = ((kwS i).1, (kwS i).2.1 * 37 + (wsg (sB 0 i)).toInt64, (kwS i).2.2) := by rw [kwS, if_neg h32]
        obtain ⟨M', g1, g2, g3, g4, g5⟩ := ih (i + 1) M (by omega) (by omega) hr (fun j => by rw [e]; exact hl j)
        rw [e] at g1
        refine ⟨M', ?_, g2, g3, g4, g5⟩
        rw [nI_1, Int64.mul_comm, ← wsg_rkb]
        exact g1
