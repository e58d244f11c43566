/-! the heads of units: a unit named; the reference behind a fault -/
section UNITN
variable {N z b bn sm size t nd nu nm u i f : Nat} {K : Ka} {M M' : Cm} {S S' : Ms} {a : Nat} {R : List Nat}
theorem fu_ok (hn : NN z K M S bn sm nd nu nm) (N : Nat) (hN : 30 < N) (x : Int64) : ∃ a4, cR M sm 4 = some a4 ∧ ((∃ k, k < nu ∧ fC_X8_rankOf N K x a4 (nI nu) M = some (nI k, M) ∧ fM_findUnit N x S = some (nI k, S)) ∨ (fC_X8_rankOf N K x a4 (nI nu) M = some (-1, M) ∧ fM_findUnit N x S = some (-1, S))) := by
  obtain ⟨n1, n2, n3, n4, n5, n6, n7, n8, n9, n10, n11, n12, n13, n14, n15, n16⟩ := hn
  have b2 : bn < 2 := by omega
  have fu : fM_findUnit N x S = (fM_find N 19 (nI (24 * bn)) (nI nu) x S).bind fun o22 => some (o22.1, o22.2) := by
    unfold fM_findUnit
    rw [n2, ck_n b2 (by decide), nI_clamp (show bn < 2 ^ 31 by omega), e24b, n11]
  obtain ⟨a4, x4, y4⟩ := n15.find N (by omega) rfl (by show 24 * bn + nu ≤ 48; omega) (by decide) x
  refine ⟨a4, x4, ?_⟩
  rcases y4 with ⟨k, k1, k2, k3, k4⟩ | ⟨k2, k3, k4⟩
  · exact Or.inl ⟨k, k1, k3, by rw [fu, k4]; rfl⟩
  · exact Or.inr ⟨k3, by rw [fu, k4]; rfl⟩
/-- after a fault -/
theorem d_tU {x : Int32} (h : DS S f) (N : Nat) : fM_takeUnit N x S = some (-1, S) := by
  unfold fM_takeUnit bM_takeUnit_19 bM_takeUnit_43 bM_takeUnit_63 bM_takeUnit_94
  rw [if_neg h.n0, if_neg h.n0, if_neg h.n0, if_neg h.n0]
theorem d_wrg {w : Nat} (p : PT z K M S size t a) (h1 : 1 ≤ w) (h2 : w ≤ 16) (N : Nat) : ∃ f, FLT f ∧ fT_X3_refuse N (z + 7) (nI w) K M = some (.inr (K, wI M (z + 7) 5 (nI f))) ∧ fM_wrong N (nI w) S = some (pF S 8 (nI f)) ∧ DS (pF S 8 (nI f)) f := by
  obtain ⟨f, f1, f2, f3⟩ := rf_nI p N h1 h2
  exact ⟨f, f1, f2, f3, f1, rfl⟩
/-- a unit taken: none, not told, or told -/
theorem tU_no {x : Int32} (p : PT z K M S size t a) (N : Nat) (hm : fM_isName N S = some (0, S)) (hw : fM_wrong N 1 S = some (pF S 8 (nI f))) (hf : FLT f) : fM_takeUnit N x S = some (-1, pF S 8 (nI f)) := by
  have d : DS (pF S 8 (nI f)) f := ⟨hf, rfl⟩
  unfold fM_takeUnit
  rw [if_pos p.2.2.2.2.1, hm, bs]
  dsimp only
  rw [if_pos rfl, hw, bs]
  unfold bM_takeUnit_19 bM_takeUnit_43 bM_takeUnit_63 bM_takeUnit_94
  rw [if_neg d.n0, if_neg d.n0, if_neg d.n0]
theorem tU_43 {x : Int32} (p : PT z K M S size t a) (N : Nat) {r : Int32} (hm : fM_isName N S = some (1, S)) (hr : fM_findUnit N (mL S 6 a) S = some (r, S)) : fM_takeUnit N x S = bM_takeUnit_43 N x r S := by
  have ha : a < 4002 := by have := p.2.1.1; have := p.2.1.2.1; have := p.2.2.1; omega
  unfold fM_takeUnit
  rw [if_pos p.2.2.2.2.1, hm, bs]
  dsimp only
  rw [if_neg (by decide)]
  unfold bM_takeUnit_19
  rw [if_pos p.2.2.2.2.1, p.2.2.2.1, ck_n ha (by decide), nI_clamp (show a < 2 ^ 31 by omega), hr, bs]
theorem tU_un {x : Int32} (p : PT z K M S size t a) (N : Nat) (hm : fM_isName N S = some (1, S)) (hr : fM_findUnit N (mL S 6 a) S = some (-1, S)) (hw : fM_wrong N 2 S = some (pF S 8 (nI f))) : fM_takeUnit N x S = some (-1, pF S 8 (nI f)) := by
  rw [tU_43 p N hm hr]
  unfold bM_takeUnit_43 bM_takeUnit_94
  rw [if_pos p.2.2.2.2.1, if_neg (by decide), hw, bs]
theorem tU_in {x : Int32} (p : PT z K M S size t a) (N : Nat) {r : Nat} (hn : NN z K M S bn sm nd nu nm) (hr : r < nu) (hm : fM_isName N S = some (1, S)) (hf : fM_findUnit N (mL S 6 a) S = some (nI r, S)) : fM_takeUnit N x S = (if mA S 20 (24 * bn + r) = x then some (nI r, S) else ((fM_wrong N 6 S).bind fun o => some (nI r, o))) := by
  obtain ⟨n1, n2, n3, n4, n5, n6, -⟩ := hn
  rw [tU_43 p N hm hf]
  unfold bM_takeUnit_43 bM_takeUnit_63 bM_takeUnit_94
  rw [if_pos p.2.2.2.2.1, if_pos (nI_pos' (by omega)), if_pos p.2.2.2.2.1, n2, e24b, nI_add, ck_n (show 24 * bn + r < 48 by omega) (by decide), nI_clamp (show 24 * bn + r < 2 ^ 31 by omega)]
/-- the roles' loop for one twice -/
theorem tw_lp (N : Nat) (k138 : Int32 → Int32 → Int32 → Ms → Option Ms) (x3 : Int32) (hi : i < 48) (h23 : mA S 23 i = nI R.length) (h6 : R.length ≤ 6) (h24 : ∀ k, k < R.length → mA S 24 (6 * i + k) = nI (R.getD k 0)) :
    ∀ (n k : Nat) (x4 : Int32), x4 = 0 ∨ x4 = 1 → k ≤ R.length → R.length < n + k → lM_takeRoles_93 N k138 n (nI i) x3 x4 (nI k) S = k138 (nI i) x3 (if x4 = 1 ∨ ∃ r, r ∈ R.drop k ∧ nI r = x3 then 1 else 0) S := by
  intro n
  induction n with
  | zero => intro k x4 h h1 h2; omega
  | succ n ih =>
    intro k x4 hx h1 h2
    rw [lM_takeRoles_93, ck_n hi (by decide), nI_clamp (show i < 2 ^ 31 by omega), h23]
    by_cases h : k < R.length
    · rw [if_neg (nI_ge h (by omega))]
      have e6 : (6 : Int32) * nI i + nI k = nI (6 * i + k) := by rw [show (6 : Int32) = nI 6 from rfl, nI_mul, nI_add]
      have go : ∀ y4 : Int32, y4 = 0 ∨ y4 = 1 → ((y4 = 1 ∨ ∃ r, r ∈ R.drop (k + 1) ∧ nI r = x3) ↔ (x4 = 1 ∨ ∃ r, r ∈ R.drop k ∧ nI r = x3)) → lM_takeRoles_93 N k138 n (nI i) x3 y4 (nI (k + 1)) S = k138 (nI i) x3 (if x4 = 1 ∨ ∃ r, r ∈ R.drop k ∧ nI r = x3 then 1 else 0) S := fun y4 hy hq => by
        rw [ih (k + 1) y4 hy (by omega) (by omega)]
        by_cases y : y4 = 1 ∨ ∃ r, r ∈ R.drop (k + 1) ∧ nI r = x3
        · rw [if_pos y, if_pos (hq.mp y)]
        · rw [if_neg y, if_neg (fun w => y (hq.mpr w))]
      have dr := getD_drop h
      rcases hx with rfl | rfl
      · rw [if_pos rfl, e6, ck_n (show 6 * i + k < 288 by omega) (by decide), nI_clamp (show 6 * i + k < 2 ^ 31 by omega), h24 k h]
        by_cases y : nI (R.getD k 0) = x3
        · rw [if_pos y]
          unfold bM_takeRoles_125 bM_takeRoles_130
          rw [nI_1]
          refine go 1 (Or.inr rfl) ⟨fun _ => Or.inr ⟨R.getD k 0, by rw [dr]; exact List.mem_cons_self .., y⟩, fun _ => Or.inl rfl⟩
        · rw [if_neg y]
          unfold bM_takeRoles_130
          rw [nI_1]
          refine go 0 (Or.inl rfl) ?_
          rw [dr]
          constructor
          · rintro (q | ⟨r, q1, q2⟩)
            · exact Or.inl q
            · exact Or.inr ⟨r, List.mem_cons_of_mem _ q1, q2⟩
          · rintro (q | ⟨r, q1, q2⟩)
            · exact Or.inl q
            · rcases List.mem_cons.mp q1 with w | w
              · exact absurd (w ▸ q2) y
              · exact Or.inr ⟨r, w, q2⟩
      · rw [if_neg (by decide)]
        unfold bM_takeRoles_125 bM_takeRoles_130
        rw [nI_1]
        exact go 1 (Or.inr rfl) ⟨fun _ => Or.inl rfl, fun _ => Or.inl rfl⟩
    · have ek : k = R.length := by omega
      subst ek
      rw [if_pos (nI_le (Nat.le_refl _) (by omega)), List.drop_length]
      have : (x4 = 1 ∨ ∃ r, r ∈ ([] : List Nat) ∧ nI r = x3) ↔ x4 = 1 := ⟨fun y => y.elim id (fun ⟨r, y, _⟩ => absurd y (by simp)), Or.inl⟩
      rcases hx with rfl | rfl
      · rw [if_neg (fun y => absurd (this.mp y) (by decide))]
      · rw [if_pos (Or.inl rfl)]
theorem dr_181 (h : DS S f) (N n : Nat) (x1 x3 : Int32) : bM_takeRoles_181 N (lM_takeRoles_2 N (bM_takeRoles_235 N) (n + 1)) (bM_takeRoles_235 N) x1 x3 S = some (pF S 7 (mF S 7 + 1)) := by
  have d : DS (pF S 7 (mF S 7 + 1)) f := h
  unfold bM_takeRoles_181 bM_takeRoles_215
  rw [if_neg h.n0, d_hS d, bs]
  dsimp only
  rw [lM_takeRoles_2, if_pos rfl]
  rfl
theorem dr_138 (h : DS S f) (N n : Nat) (x1 x3 x4 : Int32) : bM_takeRoles_138 N (lM_takeRoles_2 N (bM_takeRoles_235 N) (n + 1)) (bM_takeRoles_235 N) x1 x3 x4 S = some (pF S 7 (mF S 7 + 1)) := by
  unfold bM_takeRoles_138 bM_takeRoles_158
  rw [if_neg h.n0, if_neg h.n0]
  exact dr_181 h N n x1 x3
theorem dr_93 (h : DS S f) (N n : Nat) (hN : 30 < N) (x3 : Int32) (hi : i < 48) (h23 : mA S 23 i = nI R.length) (h6 : R.length ≤ 6) (h24 : ∀ k, k < R.length → mA S 24 (6 * i + k) = nI (R.getD k 0)) : lM_takeRoles_93 N (bM_takeRoles_138 N (lM_takeRoles_2 N (bM_takeRoles_235 N) (n + 1)) (bM_takeRoles_235 N)) N (nI i) x3 0 0 S = some (pF S 7 (mF S 7 + 1)) := by
  have q := tw_lp N (bM_takeRoles_138 N (lM_takeRoles_2 N (bM_takeRoles_235 N) (n + 1)) (bM_takeRoles_235 N)) x3 hi h23 h6 h24 N 0 0 (Or.inl rfl) (by omega) (by omega)
  exact q.trans (dr_138 h N n _ _ _)
theorem dr_81 (h : DS S f) (N n : Nat) (hN : 30 < N) (hi : i < 48) (h23 : mA S 23 i = nI R.length) (h6 : R.length ≤ 6) (h24 : ∀ k, k < R.length → mA S 24 (6 * i + k) = nI (R.getD k 0)) : bM_takeRoles_81 N (lM_takeRoles_2 N (bM_takeRoles_235 N) (n + 1)) (bM_takeRoles_235 N) (nI i) S = some (pF S 7 (mF S 7 + 1)) := by
  unfold bM_takeRoles_81
  rw [d_tU h, bs]
  exact dr_93 h N n hN _ hi h23 h6 h24
/-- the rest of a unit's head after a fault -/
theorem dd_205 (h : DS S f) (N : Nat) (x1 x2 : Int32) (x3 : Int64) : bM_toldUnit_205 N x1 x2 x3 S = some S := by
  unfold bM_toldUnit_205
  rw [if_neg h.n1]
theorem dd_177 (h : DS S f) (N : Nat) (x1 : Int32) (hi : i < 48) (x3 : Int64) : bM_toldUnit_177 N x1 (nI i) x3 S = some S := by
  have e : ∀ s1, bM_toldUnit_194 N x1 (nI i) x3 s1 S = some S := fun s1 => by
    unfold bM_toldUnit_194
    rw [d_hW h, bs]
    dsimp only
    rw [if_pos rfl]
    exact dd_205 h N _ _ _
  unfold bM_toldUnit_177
  rw [ck_n hi (by decide), e, e]
  split <;> rfl
end UNITN
