/-! the inside of a PART -/
theorem pF_cm (S : Ms) {k k' : Nat} (h : k ≠ k') (v w : Int32) : pF (pF S k v) k' w = pF (pF S k' w) k v := by
  refine Prod.ext ?_ rfl
  funext i
  show mF (pF (pF S k v) k' w) i = mF (pF (pF S k' w) k v) i
  simp only [mF_F]
  by_cases q : i = k
  · rw [if_neg (show ¬ i = k' from fun y => h (by rw [← q, ← y])), if_pos q, if_pos q]
  · rw [if_neg q, if_neg q]
theorem emS_p7 (S : Ms) (w : Int32) (i r : Nat) (x1 x2 x3 : Int32) : emS (pF S 7 w) i r x1 x2 x3 = pF (emS S i r x1 x2 x3) 7 w := pF_cm (pA (pA (pA S 39 i x1) 40 i x2) 41 i x3) (by decide) w (nI (r + 1))
theorem nx_1 (rc h : Nat) (tl : List Nat) (r : Nat) : nxt rc 1 (h, tl, r) = (h, tl, 0) := rfl
theorem nx_push (rc h : Nat) (tl : List Nat) (r o : Nat) (ho : o = 2 ∨ o = 3 ∨ o = 4 ∨ o = 14 ∨ o = 15 ∨ o = 16 ∨ o = 25) : nxt rc o (h, tl, r) = (h + 1, tl, r + 1) := by
  rcases ho with q | q | q | q | q | q | q <;> subst q <;> rfl
theorem nx_neg (rc h : Nat) (tl : List Nat) (r : Nat) : nxt rc 17 (h + 1, tl, r) = (h + 1, tl, r + 1) := rfl
theorem nx_bin (rc h : Nat) (tl : List Nat) (r o : Nat) (ho : 18 ≤ o ∧ o ≤ 24) : nxt rc o (h + 2, tl, r) = (h + 1, tl, r + 1) := by
  rcases (show o = 18 ∨ o = 19 ∨ o = 20 ∨ o = 21 ∨ o = 22 ∨ o = 23 ∨ o = 24 by omega) with q | q | q | q | q | q | q <;> subst q <;> rfl
theorem ta_l {α β : Type} (v : α) (k : α → Option (β ⊕ (Ka × Cm))) : ta (some (.inl v)) k = k v := rfl
/-- what reading ends with: both go on, or a fault -/
def EOk (z b bn sm size t nd nu nm iu : Nat) (ex : Nat → Nat → Prop) (K0 K : Ka) (M : Cm) (S : Ms) (mk : List Mk) (h : Nat) (tl : List Nat) (a v rv w bnd n : Nat) (c : Option ((Ka × Cm) ⊕ (Ka × Cm))) (o : Option Ms) : Prop :=
  (∃ M' S' rc' cc' a' r', c = some (.inl (K, M')) ∧ o = some S' ∧ a < a' ∧ r' ≤ bnd ∧ FR z b sm K0 M M' S S' ∧ PS z b bn sm size t nd nu nm iu ex K0 K M' S' mk (h, tl, r') rc' cc' a' v rv w) ∨ FB z b bn K0 M S n c o
section WITHIN
variable {z b bn sm size t nd nu nm iu : Nat} {ex : Nat → Nat → Prop} {K0 K : Ka} {M M' : Cm} {S S' : Ms} {mk : List Mk} {j : Jt} {rc cc a v rv dp w h : Nat} {tl : List Nat}
theorem VO.triv {x : Nat × Nat × Nat} (hx : x.1 = 0 ∨ x.1 = 1 ∨ x.1 = 8 ∨ (10 ≤ x.1 ∧ x.1 ≤ 13) ∨ (15 ≤ x.1 ∧ x.1 ≤ 24) ∨ 28 ≤ x.1) : VO bn S nd nu x := ⟨fun q => by omega, fun q => by omega, fun q => by omega, fun q => by omega, fun q => by omega, fun q => by omega, fun q => by omega⟩
/-- an instruction within an expression -/
theorem EMC.mk' {x : Nat × Nat × Nat} {ρ r : Nat} (h1 : r ≤ ρ) (hv : VO bn S nd nu x) (h31 : h ≤ 34) (hp : pp x.1 ≤ h) (h2 : 2 ≤ x.1) (h30 : x.1 < 30) (hρ : ρ < 90) (ht : TCx mk tl (ρ + 1)) : EMC bn S nd nu mk (h, tl, r) x ρ :=
  ⟨⟨h1, by omega⟩, hv, ⟨h31, hp⟩, fun q => by omega, fun q => by omega, fun q => by omega, fun _ => hρ, fun q => by omega, by rw [if_neg (by omega)]; exact ht⟩
theorem EMC.st {r : Nat} (h1 : r ≤ 90) (h31 : h ≤ 34) (ht : tl.length ≤ 10) (hmk : TCx mk tl 0) : EMC bn S nd nu mk (h, tl, r) (1, 0, 0) 90 :=
  ⟨⟨h1, by decide⟩, VO.triv (Or.inr (Or.inl rfl)), ⟨h31, Nat.zero_le _⟩, fun q => absurd q (by decide), fun q => absurd q (by decide), fun q => absurd q (by decide), fun q => absurd q (by decide), fun _ => rfl, hmk⟩
theorem PS.nS (hP : PS z b bn sm size t nd nu nm iu ex K0 K M S mk j rc cc a v rv dp) (N : Nat) {c : Nat} (h1 : 4 ≤ c) (h2 : c ≤ 126) (hk : cI M (z + 3) a ≠ nI c) : fM_hasSign N (nI c) S = some (0, S) := by
  rcases l_hasS hP.2.2.1 N h1 h2 with q | q
  · exact absurd q.1 hk
  · exact q.2
theorem PS.yS (hP : PS z b bn sm size t nd nu nm iu ex K0 K M S mk j rc cc a v rv dp) (N : Nat) {c : Nat} (h1 : 4 ≤ c) (h2 : c ≤ 126) (hk : cI M (z + 3) a = nI c) : a < t ∧ fM_hasSign N (nI c) S = some (1, pF S 7 (nI (a + 1))) := by
  rcases l_hasS hP.2.2.1 N h1 h2 with q | q
  · exact q.2
  · exact absurd hk q.1
theorem PS.nW (hP : PS z b bn sm size t nd nu nm iu ex K0 K M S mk j rc cc a v rv dp) (N : Nat) {c : Nat} (h1 : c < 25) (hk : cI M (z + 3) a ≠ nI (128 + c)) : fM_hasWord N (nI c) S = some (0, S) := by
  rcases l_hasW hP.2.2.1 N h1 with q | q
  · exact absurd q.1 hk
  · exact q.2
theorem PS.yW (hP : PS z b bn sm size t nd nu nm iu ex K0 K M S mk j rc cc a v rv dp) (N : Nat) {c : Nat} (h1 : c < 25) (hk : cI M (z + 3) a = nI (128 + c)) : a < t ∧ fM_hasWord N (nI c) S = some (1, pF S 7 (nI (a + 1))) := by
  rcases l_hasW hP.2.2.1 N h1 with q | q
  · exact q.2
  · exact absurd hk q.1
/-- the reference up to the sort of the PART -/
theorem m_num (hP : PS z b bn sm size t nd nu nm iu ex K0 K M S mk j rc cc a v rv dp) (N : Nat) (GP : Nat → Ms → Option Ms) (hk : cI M (z + 3) a = 3) : fM_partWithin N GP S = ((fM_emit N 2 ((mL S 6 a : Int64).toInt32) 0 S).bind fun o26 => (bM_partWithin_222 N GP) (pF o26.2 7 ((mF o26.2 7) + 1))) := by
  have ht := hP.t4
  obtain ⟨-, q, -⟩ := num_ok hP.2.2.1 N hk
  unfold fM_partWithin
  rw [hP.m7, ck_n (show a < 4002 by omega) (by decide), nI_clamp (show a < 2 ^ 31 by omega), if_pos q, ck_n (show a < 4002 by omega) (by decide)]
theorem m_nn (hP : PS z b bn sm size t nd nu nm iu ex K0 K M S mk j rc cc a v rv dp) (hk : cI M (z + 3) a ≠ 3) : ¬ mA S 4 a = 2 := by
  rcases k_numb hP.2.2.1 with q | q
  · exact absurd q.1 hk
  · exact q.2
/-- a literal NUMBER -/
theorem w_num (hP : PS z b bn sm size t nd nu nm iu ex K0 K M S mk (h, tl, 0) rc cc a v rv (w + 1)) (hw : w < 10) (hh : h ≤ 3 * w + 3) (hT : TCx mk tl (7 * (10 - w) + 1)) (hk : cI M (z + 3) a = 3) (N : Nat) (hN : 30 < N) (G : Nat → Nat → Int32 → Int32 → Ka → Cm → Option ((Ka × Cm) ⊕ (Ka × Cm))) (GP : Nat → Ms → Option Ms) (s0 : Int32) (n : Nat) :
    EOk z b bn sm size t nd nu nm iu ex K0 K M S mk (h + 1) tl a (v + 1) rv (w + 1) (7 * (10 - w) + 1) n (bT_X3_readPart_12 N G (z + 7) (nI w) s0 K M) (fM_partWithin N GP S) := by
  obtain ⟨hl, -, q, q1, q2, q3⟩ := num_ok hP.2.2.1 N hk
  have h1 := hP.tk (a' := a + 1) (by omega) (by omega)
  have h1' : PS z b bn sm size t nd nu nm iu ex K0 K (mv z M (a + 1)) (pF S 7 (nI (a + 1))) mk (h, tl, 0) rc cc (a + 1) (v + 1 + 1) rv (w + 1) := h1.less (by omega)
  obtain ⟨h2, f2⟩ := h1'.em (x := (2, q, 0)) (ρ := 7 * (10 - w)) (by first | decide | simp) (by first | decide | simp) (by first | decide | simp) (EMC.mk' (Nat.zero_le _) ⟨fun _ => q1, fun w => absurd w (by first | decide | simp), fun w => absurd w (by first | decide | simp), fun w => absurd w (by first | decide | simp), fun w => absurd w (by first | decide | simp), fun w => absurd w (by first | decide | simp), fun w => absurd w (by first | decide | simp)⟩ (by omega) (Nat.zero_le _) (by first | decide | simp) (by first | decide | simp) (by omega) hT)
  left
  refine ⟨_, _, rc + 1, cc + 1, a + 1, 7 * (10 - w) + 1, ?_, ?_, by omega, Nat.le_refl _, (FR.mv _ _ hP.hz).tr f2, ?_⟩
  · unfold bT_X3_readPart_12 bT_X3_readPart_94 bT_X3_readPart_97 bT_X3_readPart_213
    rw [gd_k hP.k7, hP.kn, hk, if_neg (by decide), if_pos rfl, q3, tb_l]
    dsimp only
    rw [gd_k hP.k7, h1'.wC N, ta_l]
    rfl
  · rw [m_num hP N GP hk, q2, hP.wS N, bs]
    unfold bM_partWithin_222
    dsimp only
    have e7 : mF (emS S (10000 * bn + rc) rc 2 (nI q) 0) 7 = nI a := hP.m7
    rw [e7, nI_1, ← emS_p7]
    rfl
  · exact h2.drop (by first | decide | simp)
/-- kind, beats -/
theorem w_kb (hP : PS z b bn sm size t nd nu nm iu ex K0 K M S mk (h, tl, 0) rc cc a v rv (w + 1)) (hw : w < 10) (hh : h ≤ 3 * w + 3) (hT : TCx mk tl (7 * (10 - w) + 1)) (hk : cI M (z + 3) a = 151 ∨ cI M (z + 3) a = 152) (N : Nat) (hN : 30 < N) (G : Nat → Nat → Int32 → Int32 → Ka → Cm → Option ((Ka × Cm) ⊕ (Ka × Cm))) (GP : Nat → Ms → Option Ms) (s0 : Int32) (n : Nat) :
    EOk z b bn sm size t nd nu nm iu ex K0 K M S mk (h + 1) tl a (v + 1) rv (w + 1) (7 * (10 - w) + 1) n (bT_X3_readPart_12 N G (z + 7) (nI w) s0 K M) (fM_partWithin N GP S) := by
  have ht := hP.t4
  have hl : a < t := hP.2.2.1.lt (by rcases hk with q | q <;> rw [q] <;> decide)
  have h1 := hP.tk (a' := a + 1) (by omega) (by omega)
  have h1' : PS z b bn sm size t nd nu nm iu ex K0 K (mv z M (a + 1)) (pF S 7 (nI (a + 1))) mk (h, tl, 0) rc cc (a + 1) (v + 1 + 1) rv (w + 1) := h1.less (by omega)
  have em : ∀ o, o = 15 ∨ o = 16 → EMC bn (pF S 7 (nI (a + 1))) nd nu mk (h, tl, 0) (o, 0, 0) (7 * (10 - w)) := fun o ho => EMC.mk' (Nat.zero_le _) (VO.triv (Or.inr (Or.inr (Or.inr (Or.inr (Or.inl ⟨by show 15 ≤ o; omega, by show o ≤ 24; omega⟩)))))) (by omega) (by show pp o ≤ h; rcases ho with q | q <;> subst q <;> exact Nat.zero_le _) (by show 2 ≤ o; omega) (by show o < 30; omega) (by omega) hT
  have nn : cI M (z + 3) a ≠ 3 := by rcases hk with q | q <;> rw [q] <;> decide
  have n40 : cI M (z + 3) a ≠ nI 40 := by rcases hk with q | q <;> rw [q] <;> decide
  have n45 : cI M (z + 3) a ≠ nI 45 := by rcases hk with q | q <;> rw [q] <;> decide
  have n22 : cI M (z + 3) a ≠ nI (128 + 22) := by rcases hk with q | q <;> rw [q] <;> decide
  have r40 : fM_hasSign N 40 S = some (0, S) := hP.nS N (c := 40) (by decide) (by decide) n40
  have r45 : fM_hasSign N 45 S = some (0, S) := hP.nS N (c := 45) (by decide) (by decide) n45
  have r22 : fM_hasWord N 22 S = some (0, S) := hP.nW N (c := 22) (by decide) n22
  rcases hk with q | q
  · obtain ⟨h2, f2⟩ := h1'.em (x := (15, 0, 0)) (ρ := 7 * (10 - w)) (by first | decide | simp) (by first | decide | simp) (by first | decide | simp) (em 15 (Or.inl rfl))
    have r23 : fM_hasWord N 23 S = some (1, pF S 7 (nI (a + 1))) := (hP.yW N (c := 23) (by decide) q).2
    left
    refine ⟨_, _, rc + 1, cc + 1, a + 1, 7 * (10 - w) + 1, ?_, ?_, by omega, Nat.le_refl _, (FR.mv _ _ hP.hz).tr f2, ?_⟩
    · unfold bT_X3_readPart_12 bT_X3_readPart_207 bT_X3_readPart_212 bT_X3_readPart_213
      rw [gd_k hP.k7, hP.kn, q, if_neg (by decide), if_neg (by decide), if_neg (by decide), if_neg (by decide), if_neg (by decide), hP.mvC N hl, bs, if_pos rfl, gd_k hP.k7, h1'.wC N, ta_l]
      rfl
    · unfold fM_partWithin bM_partWithin_222
      rw [hP.m7, ck_n (show a < 4002 by omega) (by decide), nI_clamp (show a < 2 ^ 31 by omega), if_neg (m_nn hP nn), r40, bs]; dsimp only
      rw [if_pos rfl, r45, bs]; dsimp only
      rw [if_pos rfl, r22, bs]; dsimp only
      rw [if_pos rfl, r23, bs]; dsimp only
      rw [if_neg (by decide), h1'.wS N, bs]
      rfl
    · exact h2.drop (by first | decide | simp)
  · obtain ⟨h2, f2⟩ := h1'.em (x := (16, 0, 0)) (ρ := 7 * (10 - w)) (by first | decide | simp) (by first | decide | simp) (by first | decide | simp) (em 16 (Or.inr rfl))
    have n23 : cI M (z + 3) a ≠ nI (128 + 23) := by rw [q]; decide
    have r23 : fM_hasWord N 23 S = some (0, S) := hP.nW N (c := 23) (by decide) n23
    have r24 : fM_hasWord N 24 S = some (1, pF S 7 (nI (a + 1))) := (hP.yW N (c := 24) (by decide) q).2
    left
    refine ⟨_, _, rc + 1, cc + 1, a + 1, 7 * (10 - w) + 1, ?_, ?_, by omega, Nat.le_refl _, (FR.mv _ _ hP.hz).tr f2, ?_⟩
    · unfold bT_X3_readPart_12 bT_X3_readPart_207 bT_X3_readPart_212 bT_X3_readPart_213
      rw [gd_k hP.k7, hP.kn, q, if_neg (by decide), if_neg (by decide), if_neg (by decide), if_neg (by decide), if_neg (by decide), hP.mvC N hl, bs, if_neg (by decide), gd_k hP.k7, h1'.wC N, ta_l]
      rfl
    · unfold fM_partWithin bM_partWithin_222
      rw [hP.m7, ck_n (show a < 4002 by omega) (by decide), nI_clamp (show a < 2 ^ 31 by omega), if_neg (m_nn hP nn), r40, bs]; dsimp only
      rw [if_pos rfl, r45, bs]; dsimp only
      rw [if_pos rfl, r22, bs]; dsimp only
      rw [if_pos rfl, r23, bs]; dsimp only
      rw [if_pos rfl, r24, bs]; dsimp only
      rw [if_neg (by decide), h1'.wS N, bs]
      rfl
    · exact h2.drop (by first | decide | simp)
/-- of a device -/
theorem w_of (hP : PS z b bn sm size t nd nu nm iu ex K0 K M S mk (h, tl, 0) rc cc a v rv (w + 1)) (hw : w < 10) (hh : h ≤ 3 * w + 3) (hT : TCx mk tl (7 * (10 - w) + 1)) (hk : cI M (z + 3) a = 150) (N : Nat) (hN : 30 < N) (G : Nat → Nat → Int32 → Int32 → Ka → Cm → Option ((Ka × Cm) ⊕ (Ka × Cm))) (GP : Nat → Ms → Option Ms) (s0 : Int32) (n : Nat) (hn : 8001 ≤ n) :
    EOk z b bn sm size t nd nu nm iu ex K0 K M S mk (h + 1) tl a (v + 1) rv (w + 1) (7 * (10 - w) + 1) n (bT_X3_readPart_12 N G (z + 7) (nI w) s0 K M) (fM_partWithin N GP S) := by
  have ht := hP.t4
  have hroom := hP.room
  have hl : a < t := hP.2.2.1.lt (by rw [hk]; decide)
  have h1 := hP.tk (a' := a + 1) (by omega) (by omega)
  have nn : cI M (z + 3) a ≠ 3 := by rw [hk]; decide
  have r40 : fM_hasSign N 40 S = some (0, S) := hP.nS N (c := 40) (by decide) (by decide) (by rw [hk]; decide)
  have r45 : fM_hasSign N 45 S = some (0, S) := hP.nS N (c := 45) (by decide) (by decide) (by rw [hk]; decide)
  have r22 : fM_hasWord N 22 S = some (1, pF S 7 (nI (a + 1))) := (hP.yW N (c := 22) (by decide) hk).2
  have cls : bT_X3_readPart_12 N G (z + 7) (nI w) s0 K M = tb (fT_X3_takeDevice N (z + 7) K (mv z M (a + 1))) fun o171 => (bT_X3_readPart_174 N G) (z + 7) (z + 7) 10 o171.1 o171.2.1 o171.2.2 := by
    unfold bT_X3_readPart_12
    rw [gd_k hP.k7, hP.kn, hk, if_neg (by decide), if_neg (by decide), if_neg (by decide), if_neg (by decide), if_pos rfl, hP.mvC N hl, bs]
  have ref : fM_partWithin N GP S = ((fM_takeDevice N (pF S 7 (nI (a + 1)))).bind fun o103 => (fM_emit N 14 o103.1 0 o103.2).bind fun o107 => (bM_partWithin_222 N GP) o107.2) := by
    unfold fM_partWithin
    rw [hP.m7, ck_n (show a < 4002 by omega) (by decide), nI_clamp (show a < 2 ^ 31 by omega), if_neg (m_nn hP nn), r40, bs]; dsimp only
    rw [if_pos rfl, r45, bs]; dsimp only
    rw [if_pos rfl, r22, bs]; dsimp only
    rw [if_neg (by decide)]
  rw [cls, ref]
  rcases l_dev h1.2.2.1 h1.2.1.1 N hN with ⟨d, d1, d2, d3, d4, d5⟩ | ⟨f, f1, f2, f3⟩
  · have h2 := h1.tk (a' := a + 2) (by omega) (by omega)
    rw [mv_mv, pF_pF] at h2
    have h2' : PS z b bn sm size t nd nu nm iu ex K0 K (mv z M (a + 2)) (pF S 7 (nI (a + 2))) mk (h, tl, 0) rc cc (a + 2) (v + 1 + 1) rv (w + 1) := h2.less (by omega)
    obtain ⟨h3, f3⟩ := h2'.em (x := (14, d, 0)) (ρ := 7 * (10 - w)) (by first | decide | simp) (by first | decide | simp) (by first | decide | simp) (EMC.mk' (Nat.zero_le _) ⟨fun w => absurd w (by first | decide | simp), fun w => absurd w (by first | decide | simp), fun w => absurd w (by first | decide | simp), fun w => absurd w (by first | decide | simp), fun _ => d1, fun w => absurd w (by first | decide | simp), fun w => absurd w (by first | decide | simp)⟩ (by omega) (Nat.zero_le _) (by first | decide | simp) (by first | decide | simp) (by omega) hT)
    left
    refine ⟨_, _, rc + 1, cc + 1, a + 2, 7 * (10 - w) + 1, ?_, ?_, by omega, Nat.le_refl _, (FR.mv _ _ hP.hz).tr f3, ?_⟩
    · rw [d4, tb_l, mv_mv]
      dsimp only
      unfold bT_X3_readPart_174 bT_X3_readPart_178 bT_X3_readPart_213
      rw [gd_k hP.k7, h2'.wC N, ta_l]
      rfl
    · rw [d5, bs, pF_pF]
      dsimp only
      rw [h2'.wS N, bs]
      rfl
    · exact h3.drop (by first | decide | simp)
  · right
    have d := (h1.dds f1).p7 (nI (a + 1 + 1))
    obtain ⟨r, S2, g1, g2, g3⟩ := d.em hP.1.1 hP.1.2.1 (by omega) N 14 (-1) 0
    refine ((h1.fb f1 (by rw [f2, tb_r]) ?_ (g3.le (by omega))).pre (mv_A _) (AgO.pF o7 _) (fun _ _ _ => rfl))
    rw [f3, bs]
    dsimp only
    rw [g2, bs]
    rfl
end WITHIN
