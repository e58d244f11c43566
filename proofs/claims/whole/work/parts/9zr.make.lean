/-! a text read to its end by both -/
/-- a fault at the end of both -/
def FZ {α : Type} (z b : Nat) (K0 : Ka) (M : Cm) (S : Ms) (c : Option (α ⊕ (Ka × Cm))) (o : Option (Int32 × Ms)) : Prop := ∃ f K' M' S', FLT f ∧ c = some (.inr (K', M')) ∧ KB K0 K' ∧ AgA z K0 M M' ∧ cI M' (z + 7) 5 = nI f ∧ o = some (nI f, S') ∧ DS S' f ∧ AgO b S S'
def MKo (z b bn sm size t : Nat) (K0 : Ka) (M0 : Cm) (S0 : Ms) (N : Nat) (c : Option ((Nat × Ka × Cm) ⊕ (Ka × Cm))) (o : Option (Int32 × Ms)) : Prop :=
  (∃ K' M' S' nd' nu' nm' mk' rc' cc', c = bT_X3_make_136 N (z + 7) K' M' ∧ o = bM_station_192 N S' ∧ AgA z K0 M0 M' ∧ AgO b S0 S' ∧ TS z b bn sm size t K0 K' M' S' nd' nu' nm' mk' rc' cc' t) ∨ FZ z b K0 M0 S0 c o
theorem d_192 {S : Ms} {f N : Nat} (d : DS S f) (hN : 0 < N) : bM_station_192 N S = some (nI f, S) := by
  obtain ⟨n, rfl⟩ : ∃ n, N = n + 1 := ⟨N - 1, by omega⟩
  have e : bM_station_220 (n + 1) S = some (nI f, S) := by
    unfold bM_station_220 bM_station_243
    rw [if_neg d.n0, d.2]
  unfold bM_station_192
  rw [lM_station_194, if_neg d.n0, e]
  split <;> rfl
section MAKE
variable {N z b bn sm size t : Nat} {K0 : Ka} {M0 : Cm} {S0 : Ms}
theorem mk_lp (hN : 4010 < N) : ∀ (n n' : Nat) (K : Ka) (M : Cm) (S : Ms) (nd nu nm : Nat) (mk : List Mk) (rc cc a j : Nat), t < n + a → t + 1 < n' + a → j ≤ a → TS z b bn sm size t K0 K M S nd nu nm mk rc cc a → AgA z K0 M0 M → AgO b S0 S →
    MKo z b bn sm size t K0 M0 S0 N (lT_X3_make_25 N (bT_X3_make_136 N) n (z + 7) (nI j) K M) (lM_station_102 N (bM_station_192 N) n' S) := by
  intro n
  induction n with
  | zero =>
    intro n' K M S nd nu nm mk rc cc a j h1 h2 h3 h
    have := h.1.2.1.2.2.1
    omega
  | succ n ih =>
    intro n' K M S nd nu nm mk rc cc a j h1 h2 h3 h gA gO
    obtain ⟨n', rfl⟩ : ∃ m, n' = m + 1 := ⟨n' - 1, by have := h.1.2.1.2.2.1; omega⟩
    have p := h.1.2.1
    obtain ⟨hLY, ⟨q1, q2, q3, q4, q5, q6, q7, q8⟩, hat, m7, m8, i2, i3, -⟩ := id p
    have k7 : kd K (z + 7) = 4 := hLY.k 7 4 0 rfl
    have k1 : kd K (z + 1) = 7 := hLY.k 1 7 0 rfl
    have r70 : cR M (z + 7) 0 = some (z + 1) := hLY.r 7 0 1 (by decide)
    have a42 : a < 4002 := by omega
    rw [lT_X3_make_25, gd_k k7, nn_s r70, gd_k k1, q3, if_neg (nI_ge (show j < t + 1 by omega) (by omega)), lM_station_102, if_pos m8, m7, ck_n a42 (by decide), nI_clamp (show a < 2 ^ 31 by omega), i3]
    by_cases ea : a = t
    · subst ea
      rw [q4, q6, if_pos rfl, if_pos rfl]
      exact Or.inl ⟨K, M, S, nd, nu, nm, mk, rc, cc, rfl, rfl, gA, gO, h⟩
    · have tk := q8 a (by omega)
      have n0 : ¬ cI M (z + 3) a = 0 := by
        obtain ⟨-, -, s⟩ := tk
        rcases s with ⟨-, -, ⟨r, r1, -, r3⟩ | ⟨-, r3⟩⟩ | ⟨-, s2, -⟩ | ⟨-, c, c1, c2, -, c4, -⟩ | ⟨-, s2⟩
        · rw [r3]; exact fun w => by have := (nI_eq (b := 0) (by omega) (by decide)).mp w; omega
        · rw [r3]; decide
        · rw [s2]; decide
        · rw [c4]; exact fun w => by have := (nI_eq (b := 0) (by omega) (by decide)).mp w; omega
        · rw [s2]; decide
      have n4 : ¬ mA S 4 a = 0 := by
        obtain ⟨-, -, s⟩ := tk
        rcases s with ⟨s1, -⟩ | ⟨s1, -⟩ | ⟨s1, -⟩ | ⟨s1, -⟩ <;> (rw [s1]; decide)
      rw [if_neg n0, if_neg n4]
      -- what a device, unit, demand leaves
      have go : ∀ (c : Option ((Ka × Cm) ⊕ (Ka × Cm))) (o : Option Ms), TO z b bn sm size t K0 M S a c o → MKo z b bn sm size t K0 M0 S0 N (tb c fun o105 => lT_X3_make_25 N (bT_X3_make_136 N) n (z + 7) (nI (j + 1)) o105.1 o105.2) (o.bind fun o130 => lM_station_102 N (bM_station_192 N) n' o130) := fun c o ho => by
        rcases ho with ⟨K', M', S', nd', nu', nm', mk', rc', cc', a', w1, w2, w3, w4, w5, w6⟩ | ⟨f, K', M', S', w1, w2, w3, w4, w5, w6, w7, w8⟩
        · rw [w1, w2, tb_l, bs]
          exact ih n' K' M' S' nd' nu' nm' mk' rc' cc' a' (j + 1) (by omega) (by omega) (by omega) w6 (gA.tr w4) (gO.tr w5)
        · right
          refine ⟨f, K', M', S', w1, by rw [w2]; rfl, w3, gA.tr w4, w5, ?_, w7, gO.tr w8⟩
          rw [w6, bs]
          obtain ⟨n2, rfl⟩ : ∃ m, n' = m + 1 := ⟨n' - 1, by omega⟩
          rw [lM_station_102, if_neg w7.n0]
          exact d_192 w7 (by omega)
      have wd : ∀ w, w < 25 → (cI M (z + 3) a = nI (128 + w) → fM_isWord N (nI w) S = some (1, S)) ∧ (¬ cI M (z + 3) a = nI (128 + w) → fM_isWord N (nI w) S = some (0, S)) := fun w hw => by
        rcases k_word p N hw with ⟨y1, y2⟩ | ⟨y1, y2⟩
        · exact ⟨fun _ => y2, fun y => absurd y1 y⟩
        · exact ⟨fun y => absurd y y1, fun _ => y2⟩
      have W0y : cI M (z + 3) a = 128 → fM_isWord N 0 S = some (1, S) := (wd 0 (by decide)).1
      have W0n : ¬ cI M (z + 3) a = 128 → fM_isWord N 0 S = some (0, S) := (wd 0 (by decide)).2
      have W4y : cI M (z + 3) a = 132 → fM_isWord N 4 S = some (1, S) := (wd 4 (by decide)).1
      have W4n : ¬ cI M (z + 3) a = 132 → fM_isWord N 4 S = some (0, S) := (wd 4 (by decide)).2
      have W5y : cI M (z + 3) a = 133 → fM_isWord N 5 S = some (1, S) := (wd 5 (by decide)).1
      have W5n : ¬ cI M (z + 3) a = 133 → fM_isWord N 5 S = some (0, S) := (wd 5 (by decide)).2
      have W7y : cI M (z + 3) a = 135 → fM_isWord N 7 S = some (1, S) := (wd 7 (by decide)).1
      have W7n : ¬ cI M (z + 3) a = 135 → fM_isWord N 7 S = some (0, S) := (wd 7 (by decide)).2
      have W10y : cI M (z + 3) a = 138 → fM_isWord N 10 S = some (1, S) := (wd 10 (by decide)).1
      have W10n : ¬ cI M (z + 3) a = 138 → fM_isWord N 10 S = some (0, S) := (wd 10 (by decide)).2
      by_cases e128 : cI M (z + 3) a = 128
      · rw [if_pos e128, W0y e128, bs]
        dsimp only
        rw [if_neg (by decide)]
        unfold bT_X3_make_108 bT_X3_make_130
        rw [nI_1]
        exact go _ _ (t_device h e128 hN)
      · rw [if_neg e128, W0n e128, bs]
        dsimp only
        rw [if_pos rfl]
        by_cases e132 : cI M (z + 3) a = 132
        · rw [W4y e132, bs]
          dsimp only
          rw [e132, if_neg (by decide), if_neg (by decide), if_neg (by decide), if_pos rfl, if_neg (by decide)]
          unfold bT_X3_make_111 bT_X3_make_115 bT_X3_make_130 bM_station_161
          rw [gd_k k7, nI_1]
          exact go _ _ (t_unit h (Or.inl e132) hN)
        · rw [W4n e132, bs]
          dsimp only
          rw [if_pos rfl]
          by_cases e133 : cI M (z + 3) a = 133
          · rw [W5y e133, bs]
            dsimp only
            rw [e133, if_neg (by decide), if_neg (by decide), if_neg (by decide), if_neg (by decide), if_pos rfl, if_neg (by decide)]
            unfold bT_X3_make_111 bT_X3_make_115 bT_X3_make_130 bM_station_161
            rw [gd_k k7, nI_1]
            exact go _ _ (t_unit h (Or.inr (Or.inl e133)) hN)
          · rw [W5n e133, bs]
            dsimp only
            rw [if_pos rfl]
            by_cases e135 : cI M (z + 3) a = 135
            · rw [W7y e135, bs]
              dsimp only
              rw [e135, if_neg (by decide), if_neg (by decide), if_neg (by decide), if_neg (by decide), if_neg (by decide), if_neg (by decide), if_pos rfl, if_neg (by decide)]
              unfold bT_X3_make_111 bT_X3_make_115 bT_X3_make_130 bM_station_161
              rw [gd_k k7, nI_1]
              exact go _ _ (t_unit h (Or.inr (Or.inr e135)) hN)
            · rw [W7n e135, bs]
              dsimp only
              rw [if_pos rfl]
              by_cases e138 : cI M (z + 3) a = 138
              · rw [W10y e138, bs]
                dsimp only
                rw [e138, if_neg (by decide), if_neg (by decide), if_neg (by decide), if_neg (by decide), if_neg (by decide), if_neg (by decide), if_neg (by decide), if_neg (by decide), if_neg (by decide), if_pos rfl, if_neg (by decide)]
                unfold bT_X3_make_122 bT_X3_make_130
                rw [nI_1]
                exact go _ _ (t_demand h e138 hN)
              · rw [W10n e138, bs]
                dsimp only
                rw [if_pos rfl]
                simp only [if_neg e132, if_neg e133, if_neg e135, if_neg e138, ite_self]
                right
                obtain ⟨f, f1, f2, f3⟩ := rf_nI p N (w := 1) (by omega) (by omega)
                have f2' : fT_X3_refuse N (z + 7) 1 K M = some (.inr (K, wI M (z + 7) 5 (nI f))) := f2
                have f3' : fM_wrong N 1 S = some (pF S 8 (nI f)) := f3
                have d : DS (pF S 8 (nI f)) f := ⟨f1, rfl⟩
                refine ⟨f, K, _, pF S 8 (nI f), f1, ?_, h.1.1.2.2.2.2.2.1, gA.tr ⟨fun q _ hq => ⟨cI_wI_ne _ _ _ hq, rfl⟩, fun _ _ _ _ => rfl⟩, by rw [cI_w, if_pos ⟨rfl, rfl⟩], ?_, d, gO.tr (AgO.pF o8 _)⟩
                · unfold bT_X3_make_125
                  rw [gd_k k7, f2', tb_r]
                · rw [f3', bs]
                  obtain ⟨n2, rfl⟩ : ∃ m, n' = m + 1 := ⟨n' - 1, by omega⟩
                  rw [lM_station_102, if_neg d.n0]
                  exact d_192 d (by omega)
end MAKE
