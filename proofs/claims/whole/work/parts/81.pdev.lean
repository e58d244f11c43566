/-! a device read by both -/
section PDEV
variable {z : Nat} {K : Ka} {M : Cm} {S : Ms} {size t a b bn sm nd nu nm : Nat}
theorem NN.mv (h : NN z K M S bn sm nd nu nm) (hs : sm ≠ z + 7) (j : Nat) (v : Int32) : NN z K (mv z M j) (pF S 7 v) bn sm nd nu nm := by
  unfold NN at h ⊢
  rw [mv_I j hs]
  exact h
theorem DVR.mv {tok : Nat} (h : DVR z K M sm tok) (j : Nat) : DVR z K (mv z M j) sm tok := h
/-- a fault: the class threw with f, the reference keeps f; what is old is untouched -/
def FO (z b bn : Nat) (K : Ka) (M : Cm) (S : Ms) (c : Option ((Ka × Cm) ⊕ (Ka × Cm))) (o : Option Ms) : Prop := ∃ f K' M', FLT f ∧ c = some (.inr (K', M')) ∧ K' = K ∧ AgA z K M M' ∧ cI M' (z + 7) 5 = nI f ∧ DO b bn S f o
theorem FO.mk' {f j : Nat} {S1 : Ms} {c : Option ((Ka × Cm) ⊕ (Ka × Cm))} {o : Option Ms} (hf : FLT f) (hc : c = some (.inr (K, wI (mv z M j) (z + 7) 5 (nI f)))) (hd : DO b bn S1 f o) (hs : AgO b S S1) : FO z b bn K M S c o := by
  refine ⟨f, K, _, hf, hc, rfl, ⟨fun a' _ h => ⟨by rw [cI_wI_ne _ _ _ h, mv_I _ h], rfl⟩, fun _ _ _ _ => rfl⟩, by rw [cI_w, if_pos ⟨rfl, rfl⟩], hd.pre hs⟩
/-- taking on from place j, where rows X were stored since -/
theorem g_word {X : Ms → Ms} (hX : ∀ S v w, pF (X (pF S 7 v)) 7 w = X (pF S 7 w)) (P : ∀ j, j ≤ t → PT z K (mv z M j) (X (pF S 7 (nI j))) size t j) {j : Nat} (hj : j ≤ t) (N : Nat) {w : Nat} (hw : w < 25) : (j < t ∧ fT_X3_take N (z + 7) (nI (128 + w)) K (mv z M j) = some (.inl (K, mv z M (j + 1))) ∧ fM_takeWord N (nI w) (X (pF S 7 (nI j))) = some (X (pF S 7 (nI (j + 1))))) ∨ (∃ f, FLT f ∧ fT_X3_take N (z + 7) (nI (128 + w)) K (mv z M j) = some (.inr (K, wI (mv z M j) (z + 7) 5 (nI f))) ∧ fM_takeWord N (nI w) (X (pF S 7 (nI j))) = some (pF (X (pF S 7 (nI j))) 8 (nI f))) := by
  rcases l_word (P j hj) N hw with ⟨-, q1, q2, q3⟩ | q
  · rw [mv_mv] at q2
    rw [hX] at q3
    exact Or.inl ⟨q1, q2, q3⟩
  · exact Or.inr q
theorem g_sign {X : Ms → Ms} (hX : ∀ S v w, pF (X (pF S 7 v)) 7 w = X (pF S 7 w)) (P : ∀ j, j ≤ t → PT z K (mv z M j) (X (pF S 7 (nI j))) size t j) {j : Nat} (hj : j ≤ t) (N : Nat) {c : Nat} (h1 : 4 ≤ c) (h2 : c ≤ 126) : (j < t ∧ fT_X3_take N (z + 7) (nI c) K (mv z M j) = some (.inl (K, mv z M (j + 1))) ∧ fM_takeSign N (nI c) (X (pF S 7 (nI j))) = some (X (pF S 7 (nI (j + 1))))) ∨ (∃ f, FLT f ∧ fT_X3_take N (z + 7) (nI c) K (mv z M j) = some (.inr (K, wI (mv z M j) (z + 7) 5 (nI f))) ∧ fM_takeSign N (nI c) (X (pF S 7 (nI j))) = some (pF (X (pF S 7 (nI j))) 8 (nI f))) := by
  rcases l_sign (P j hj) N h1 h2 with ⟨-, q1, q2, q3⟩ | q
  · rw [mv_mv] at q2
    rw [hX] at q3
    exact Or.inl ⟨q1, q2, q3⟩
  · exact Or.inr q
theorem g_numb {X : Ms → Ms} (hX : ∀ S v w, pF (X (pF S 7 v)) 7 w = X (pF S 7 w)) (P : ∀ j, j ≤ t → PT z K (mv z M j) (X (pF S 7 (nI j))) size t j) {j : Nat} (hj : j ≤ t) (N : Nat) {lo hi : Nat} (hlo : lo < 2 ^ 31) (hhi : hi < 2 ^ 31) : (∃ q, lo ≤ q ∧ q ≤ hi ∧ q ≤ 999999999 ∧ j < t ∧ fT_X3_takeNumber N (z + 7) (nI lo) (nI hi) K (mv z M j) = some (.inl (nI q, K, mv z M (j + 1))) ∧ fM_takeNumber N (nI lo) (nI hi) (X (pF S 7 (nI j))) = some (nI q, X (pF S 7 (nI (j + 1))))) ∨ (∃ f, FLT f ∧ fT_X3_takeNumber N (z + 7) (nI lo) (nI hi) K (mv z M j) = some (.inr (K, wI (mv z M j) (z + 7) 5 (nI f))) ∧ fM_takeNumber N (nI lo) (nI hi) (X (pF S 7 (nI j))) = some (0, pF (pF (X (pF S 7 (nI j))) 8 (nI f)) 7 (nI (j + 1)))) := by
  rcases l_numb (P j hj) N hlo hhi with ⟨q, g1, g2, g3, -, q1, q2, q3⟩ | q
  · rw [mv_mv] at q2
    rw [hX] at q3
    exact Or.inl ⟨q, g1, g2, g3, q1, q2, q3⟩
  · exact Or.inr q
def dvS (S : Ms) (bn nd a : Nat) (x : Int64) (fr to pc : Nat) : Ms := pA (pA (pA (pA (pL (pF S 7 (nI (a + 9))) 14 (24 * bn + nd) x) 15 (24 * bn + nd) (nI fr)) 16 (24 * bn + nd) (nI to)) 17 (24 * bn + nd) (nI pc)) 13 bn (nI (nd + 1))
theorem p_device (h : PT z K M S size t a) (hn : NN z K M S bn sm nd nu nm) (hr : DVR z K M sm (t + 1)) (hb : b = 0 ∨ b = 1) (hbn : bn = 1 - b) (hk : cI M (z + 3) a = 128) (h9 : 9 * nd ≤ a) (N : Nat) (hN : 30 < N) :
    (∃ x fr to pc, a + 9 ≤ t ∧ nd < 24 ∧ (∀ r, r < 25 → x ≠ kwT r) ∧ (∀ k, k < nd → mL S 14 (24 * bn + k) ≠ x) ∧ fr ≤ to ∧ to ≤ 999999999 ∧ 1 ≤ pc ∧ pc ≤ 999999999 ∧ fT_X3_readDevice N (z + 7) K M = some (.inl (K, dvC (mv z M (a + 9)) sm nd x fr to pc)) ∧ fM_toldDevice N S = some (dvS S bn nd a x fr to pc)) ∨
    FO z b bn K M S (fT_X3_readDevice N (z + 7) K M) (fM_toldDevice N S) := by
  obtain ⟨hLY, hT, h3, h4, h5, h6, h7, h8⟩ := id h
  obtain ⟨n1, n2, n3, n4, n5, n6, n7, n8, n9, -⟩ := id hn
  have hsm : sm ≠ z + 7 := by have := hr.1; omega
  have ts : t ≤ 4000 := by have := hT.1; have := hT.2.1; omega
  have hl : a < t := h.lt (by rw [hk]; decide)
  have b2 : bn < 2 := by omega
  have k7 := hLY.k 7 4 0 rfl
  have ref0 : fM_toldDevice N S = (if nI nd = 24 then ((fM_wrong N 5 S).bind fun o34 => some o34) else ((fM_newName N (pF S 7 (nI (a + 1)))).bind fun o54 => ck (nI (24 * bn + nd)) 48 (dvE1 N (nI (24 * bn + nd)) (pL o54.2 14 (nI (24 * bn + nd) : Int32).toNatClampNeg o54.1)))) := by
    rw [dv_def, n2, ck_n b2 (by decide), ck_n b2 (by decide), nI_clamp (show bn < 2 ^ 31 by omega), n9, h4, nI_1, ix24]
  have cls0 : fT_X3_readDevice N (z + 7) K M = (if nI nd < 24 then ((bT_X3_readDevice_17 N) (z + 7) K M) else (tb (fT_X3_refuse N (z + 7) 5 K M) fun o14 => (bT_X3_readDevice_17 N) (z + 7) o14.1 o14.2)) := by
    unfold fT_X3_readDevice
    rw [gd_k k7, nn_s n3, gd_k n4, n8]
  by_cases hnd : nd < 24
  · rw [cls0, ref0, if_pos (show nI nd < 24 from nI_lt (b := 24) hnd (by decide)), if_neg (show ¬ nI nd = 24 from fun q => by have := (nI_eq (b := 24) (by omega) (by decide)).mp q; omega)]
    have i48 : 24 * bn + nd < 48 := by omega
    have obn : ∀ k, bw k = 24 → ¬ OB b k (24 * bn + nd) := fun k hw => ob_n hb hbn hw (by decide) (by omega) (by omega)
    unfold bT_X3_readDevice_17
    rw [gd_k k7, h6, nI_1, mv_ok hLY hT N (by omega), bs]
    have h1 := h.mv (j := a + 1) (by omega)
    have hn1 := hn.mv hsm (a + 1) (nI (a + 1))
    have cki : ∀ {ρ : Type} (k : Option ρ), ck (nI (24 * bn + nd)) 48 k = k := fun k => ck_n i48 (by decide)
    have cl : (nI (24 * bn + nd)).toNatClampNeg = 24 * bn + nd := nI_clamp (by omega)
    -- one step of the class
    rcases l_new h1 hn1 N hN with ⟨x, e1, q1, q2, q3, -, -, q4, q5⟩ | ⟨f, f1, f2, f3⟩
    · rw [q4, q5, tb_l, bs]
      dsimp only
      rw [mv_mv, pF_pF, cki, cl, show a + 1 + 1 = a + 2 from rfl]
      have P0 : ∀ j, j ≤ t → PT z K (mv z M j) (pF S 7 (nI j)) size t j := fun j hj => h.mv hj
      have W : ∀ (j f : Nat) (S1 : Ms) (o : Option Ms) (c : Option ((Ka × Cm) ⊕ (Ka × Cm))), FLT f → c = some (.inr (K, wI (mv z M j) (z + 7) 5 (nI f))) → DO b bn S1 f o → AgO b S S1 → FO z b bn K M S c o := fun j f S1 o c q1 q2 q3 q4 => FO.mk' q1 q2 q3 q4
      generalize hi : 24 * bn + nd = i at *
      have A1 : ∀ j, AgO b S (pL (pF S 7 (nI j)) 14 i x) := fun j => (AgO.pF o7 _).tr (AgO.pL (obn 14 rfl) _)
      have P1 : ∀ j, j ≤ t → PT z K (mv z M j) (pL (pF S 7 (nI j)) 14 i x) size t j := fun j hj => (P0 j hj).sL (by decide) (by decide) _ _
      have X1 : ∀ S v w, pF (pL (pF S 7 v) 14 i x) 7 w = pL (pF S 7 w) 14 i x := fun S v w => by show pL (pF (pF S 7 v) 7 w) 14 i x = _; rw [pF_pF]
      unfold bT_X3_readDevice_31 dvE1
      rw [gd_k k7]
      rcases g_word (X := fun S => pL S 14 i x) X1 P1 (j := a + 2) (by omega) N (w := 1) (by decide) with ⟨l1, c1, r1⟩ | ⟨f, f1, c1, r1⟩
      · have c1' : fT_X3_take N (z + 7) 129 K (mv z M (a + 2)) = some (.inl (K, mv z M (a + 3))) := c1
        have r1' : fM_takeWord N 1 (pL (pF S 7 (nI (a + 2))) 14 i x) = some (pL (pF S 7 (nI (a + 3))) 14 i x) := r1
        rw [c1', r1', tb_l, bs]
        dsimp only
        unfold bT_X3_readDevice_39 dvE2
        rw [gd_k k7]
        rcases g_numb (X := fun S => pL S 14 i x) X1 P1 (j := a + 3) (by omega) N (lo := 0) (hi := 999999999) (by decide) (by decide) with ⟨fr, g1, g2, g3, l2, c2, r2⟩ | ⟨f, f1, c2, r2⟩
        · have c2' : fT_X3_takeNumber N (z + 7) 0 999999999 K (mv z M (a + 3)) = some (.inl (nI fr, K, mv z M (a + 4))) := c2
          have r2' : fM_takeNumber N 0 999999999 (pL (pF S 7 (nI (a + 3))) 14 i x) = some (nI fr, pL (pF S 7 (nI (a + 4))) 14 i x) := r2
          rw [c2', r2', tb_l, bs]
          dsimp only
          rw [cki, cl]
          have P2 : ∀ j, j ≤ t → PT z K (mv z M j) (pA (pL (pF S 7 (nI j)) 14 i x) 15 i (nI fr)) size t j := fun j hj => (P1 j hj).sA (by decide) (by decide) _ _
          have X2 : ∀ S v w, pF (pA (pL (pF S 7 v) 14 i x) 15 i (nI fr)) 7 w = pA (pL (pF S 7 w) 14 i x) 15 i (nI fr) := fun S v w => by show pA (pL (pF (pF S 7 v) 7 w) 14 i x) 15 i (nI fr) = _; rw [pF_pF]
          have A2 : ∀ j, AgO b S (pA (pL (pF S 7 (nI j)) 14 i x) 15 i (nI fr)) := fun j => (A1 j).tr (AgO.pA (obn 15 rfl) _)
          unfold bT_X3_readDevice_46 dvE3
          rw [gd_k k7]
          rcases g_word (X := fun S => pA (pL S 14 i x) 15 i (nI fr)) X2 P2 (j := a + 4) (by omega) N (w := 2) (by decide) with ⟨l3, c3, r3⟩ | ⟨f, f1, c3, r3⟩
          · have c3' : fT_X3_take N (z + 7) 130 K (mv z M (a + 4)) = some (.inl (K, mv z M (a + 5))) := c3
            have r3' : fM_takeWord N 2 (pA (pL (pF S 7 (nI (a + 4))) 14 i x) 15 i (nI fr)) = some (pA (pL (pF S 7 (nI (a + 5))) 14 i x) 15 i (nI fr)) := r3
            rw [c3', r3', tb_l, bs]
            dsimp only
            unfold bT_X3_readDevice_54 dvE4
            have e15 : mA (pA (pL (pF S 7 (nI (a + 5))) 14 i x) 15 i (nI fr)) 15 i = nI fr := by rw [mA_A, if_pos ⟨rfl, rfl⟩]
            rw [cki, gd_k k7, cl, e15]
            rcases g_numb (X := fun S => pA (pL S 14 i x) 15 i (nI fr)) X2 P2 (j := a + 5) (by omega) N (lo := fr) (hi := 999999999) (by omega) (by decide) with ⟨to, g4, g5, g6, l4, c4, r4⟩ | ⟨f, f1, c4, r4⟩
            · have c4' : fT_X3_takeNumber N (z + 7) (nI fr) 999999999 K (mv z M (a + 5)) = some (.inl (nI to, K, mv z M (a + 6))) := c4
              have r4' : fM_takeNumber N (nI fr) 999999999 (pA (pL (pF S 7 (nI (a + 5))) 14 i x) 15 i (nI fr)) = some (nI to, pA (pL (pF S 7 (nI (a + 6))) 14 i x) 15 i (nI fr)) := r4
              rw [c4', r4', tb_l, bs]
              dsimp only
              rw [cki]
              have P3 : ∀ j, j ≤ t → PT z K (mv z M j) (pA (pA (pL (pF S 7 (nI j)) 14 i x) 15 i (nI fr)) 16 i (nI to)) size t j := fun j hj => (P2 j hj).sA (by decide) (by decide) _ _
              have X3 : ∀ S v w, pF (pA (pA (pL (pF S 7 v) 14 i x) 15 i (nI fr)) 16 i (nI to)) 7 w = pA (pA (pL (pF S 7 w) 14 i x) 15 i (nI fr)) 16 i (nI to) := fun S v w => by show pA (pA (pL (pF (pF S 7 v) 7 w) 14 i x) 15 i (nI fr)) 16 i (nI to) = _; rw [pF_pF]
              have A3 : ∀ j, AgO b S (pA (pA (pL (pF S 7 (nI j)) 14 i x) 15 i (nI fr)) 16 i (nI to)) := fun j => (A2 j).tr (AgO.pA (obn 16 rfl) _)
              unfold bT_X3_readDevice_61 dvE5
              rw [gd_k k7]
              rcases g_word (X := fun S => pA (pA (pL S 14 i x) 15 i (nI fr)) 16 i (nI to)) X3 P3 (j := a + 6) (by omega) N (w := 3) (by decide) with ⟨l5, c5, r5⟩ | ⟨f, f1, c5, r5⟩
              · have c5' : fT_X3_take N (z + 7) 131 K (mv z M (a + 6)) = some (.inl (K, mv z M (a + 7))) := c5
                have r5' : fM_takeWord N 3 (pA (pA (pL (pF S 7 (nI (a + 6))) 14 i x) 15 i (nI fr)) 16 i (nI to)) = some (pA (pA (pL (pF S 7 (nI (a + 7))) 14 i x) 15 i (nI fr)) 16 i (nI to)) := r5
                rw [c5', r5', tb_l, bs]
                dsimp only
                unfold bT_X3_readDevice_70 dvE6
                rw [gd_k k7]
                rcases g_numb (X := fun S => pA (pA (pL S 14 i x) 15 i (nI fr)) 16 i (nI to)) X3 P3 (j := a + 7) (by omega) N (lo := 1) (hi := 999999999) (by decide) (by decide) with ⟨pc, g7, g8, g9, l6, c6, r6⟩ | ⟨f, f1, c6, r6⟩
                · have c6' : fT_X3_takeNumber N (z + 7) 1 999999999 K (mv z M (a + 7)) = some (.inl (nI pc, K, mv z M (a + 8))) := c6
                  have r6' : fM_takeNumber N 1 999999999 (pA (pA (pL (pF S 7 (nI (a + 7))) 14 i x) 15 i (nI fr)) 16 i (nI to)) = some (nI pc, pA (pA (pL (pF S 7 (nI (a + 8))) 14 i x) 15 i (nI fr)) 16 i (nI to)) := r6
                  rw [c6', r6', tb_l, bs]
                  dsimp only
                  rw [cki, cl]
                  have P4 : ∀ j, j ≤ t → PT z K (mv z M j) (pA (pA (pA (pL (pF S 7 (nI j)) 14 i x) 15 i (nI fr)) 16 i (nI to)) 17 i (nI pc)) size t j := fun j hj => (P3 j hj).sA (by decide) (by decide) _ _
                  have X4 : ∀ S v w, pF (pA (pA (pA (pL (pF S 7 v) 14 i x) 15 i (nI fr)) 16 i (nI to)) 17 i (nI pc)) 7 w = pA (pA (pA (pL (pF S 7 w) 14 i x) 15 i (nI fr)) 16 i (nI to)) 17 i (nI pc) := fun S v w => by show pA (pA (pA (pL (pF (pF S 7 v) 7 w) 14 i x) 15 i (nI fr)) 16 i (nI to)) 17 i (nI pc) = _; rw [pF_pF]
                  have A4 : ∀ j, AgO b S (pA (pA (pA (pL (pF S 7 (nI j)) 14 i x) 15 i (nI fr)) 16 i (nI to)) 17 i (nI pc)) := fun j => (A3 j).tr (AgO.pA (obn 17 rfl) _)
                  unfold bT_X3_readDevice_77 dvE7
                  rw [gd_k k7]
                  rcases g_sign (X := fun S => pA (pA (pA (pL S 14 i x) 15 i (nI fr)) 16 i (nI to)) 17 i (nI pc)) X4 P4 (j := a + 8) (by omega) N (c := 59) (by decide) (by decide) with ⟨l7, c7, r7⟩ | ⟨f, f1, c7, r7⟩
                  · have c7' : fT_X3_take N (z + 7) 59 K (mv z M (a + 8)) = some (.inl (K, mv z M (a + 9))) := c7
                    have r7' : fM_takeSign N 59 (pA (pA (pA (pL (pF S 7 (nI (a + 8))) 14 i x) 15 i (nI fr)) 16 i (nI to)) 17 i (nI pc)) = some (pA (pA (pA (pL (pF S 7 (nI (a + 9))) 14 i x) 15 i (nI fr)) 16 i (nI to)) 17 i (nI pc)) := r7
                    left
                    refine ⟨x, fr, to, pc, by omega, hnd, q2, q3, g4, g6, g7, g9, ?_, ?_⟩
                    · rw [c7', tb_l]
                      dsimp only
                      unfold bT_X3_readDevice_85
                      have e10 : cI (mv z M (a + 9)) sm 10 = nI nd := by rw [mv_I _ hsm]; exact n8
                      have n3' : cR (mv z M (a + 9)) (z + 7) 1 = some sm := n3
                      rw [gd_k k7, nn_s n3', gd_k n4, ad_ok (hr.mv (a + 9)) N e10 (by omega) x fr to pc, bs]
                    · rw [r7', bs]
                      have m12 : mF (pA (pA (pA (pL (pF S 7 (nI (a + 9))) 14 i x) 15 i (nI fr)) 16 i (nI to)) 17 i (nI pc)) 12 = nI bn := n2
                      rw [m12, ck_n b2 (by decide), ck_n b2 (by decide), nI_clamp (by omega), mA_Ane _ _ _ (by decide), mA_Ane _ _ _ (by decide), mA_Ane _ _ _ (by decide), mA_L, mA_F, n9, nI_1]
                      unfold dvS
                      rw [hi]
                  · right
                    have c7' : fT_X3_take N (z + 7) 59 K (mv z M (a + 8)) = some (.inr (K, wI (mv z M (a + 8)) (z + 7) 5 (nI f))) := c7
                    have r7' : fM_takeSign N 59 (pA (pA (pA (pL (pF S 7 (nI (a + 8))) 14 i x) 15 i (nI fr)) 16 i (nI to)) 17 i (nI pc)) = some (pF (pA (pA (pA (pL (pF S 7 (nI (a + 8))) 14 i x) 15 i (nI fr)) 16 i (nI to)) 17 i (nI pc)) 8 (nI f)) := r7
                    rw [c7', r7', bs]
                    have m12 : mF (pF (pA (pA (pA (pL (pF S 7 (nI (a + 8))) 14 i x) 15 i (nI fr)) 16 i (nI to)) 17 i (nI pc)) 8 (nI f)) 12 = nI bn := n2
                    rw [m12, ck_n b2 (by decide), ck_n b2 (by decide), nI_clamp (by omega)]
                    exact W (a + 8) f _ _ _ f1 rfl ⟨_, rfl, ⟨f1, rfl⟩, AgO.pA (ob_n hb hbn (w := 1) rfl (by decide) (by omega) (by omega)) _, n2⟩ ((A4 (a + 8)).tr (AgO.pF o8 _))
                · right
                  have c6' : fT_X3_takeNumber N (z + 7) 1 999999999 K (mv z M (a + 7)) = some (.inr (K, wI (mv z M (a + 7)) (z + 7) 5 (nI f))) := c6
                  have r6' : fM_takeNumber N 1 999999999 (pA (pA (pL (pF S 7 (nI (a + 7))) 14 i x) 15 i (nI fr)) 16 i (nI to)) = some (0, pF (pF (pA (pA (pL (pF S 7 (nI (a + 7))) 14 i x) 15 i (nI fr)) 16 i (nI to)) 8 (nI f)) 7 (nI (a + 8))) := r6
                  rw [c6', r6', bs]
                  dsimp only
                  rw [cki, cl]
                  exact W (a + 7) f _ _ _ f1 rfl (dd7 hb hbn N ⟨f1, rfl⟩ n2) ((((A3 (a + 7)).tr (AgO.pF o8 _)).tr (AgO.pF o7 _)).tr (AgO.pA (obn 17 rfl) _))
              · right
                have c5' : fT_X3_take N (z + 7) 131 K (mv z M (a + 6)) = some (.inr (K, wI (mv z M (a + 6)) (z + 7) 5 (nI f))) := c5
                have r5' : fM_takeWord N 3 (pA (pA (pL (pF S 7 (nI (a + 6))) 14 i x) 15 i (nI fr)) 16 i (nI to)) = some (pF (pA (pA (pL (pF S 7 (nI (a + 6))) 14 i x) 15 i (nI fr)) 16 i (nI to)) 8 (nI f)) := r5
                rw [c5', r5', bs, ← hi]
                exact W (a + 6) f _ _ _ f1 rfl (dd6 hb hbn hnd N ⟨f1, rfl⟩ n2) (by rw [hi]; exact (A3 (a + 6)).tr (AgO.pF o8 _))
            · right
              have c4' : fT_X3_takeNumber N (z + 7) (nI fr) 999999999 K (mv z M (a + 5)) = some (.inr (K, wI (mv z M (a + 5)) (z + 7) 5 (nI f))) := c4
              have r4' : fM_takeNumber N (nI fr) 999999999 (pA (pL (pF S 7 (nI (a + 5))) 14 i x) 15 i (nI fr)) = some (0, pF (pF (pA (pL (pF S 7 (nI (a + 5))) 14 i x) 15 i (nI fr)) 8 (nI f)) 7 (nI (a + 6))) := r4
              rw [c4', r4', bs]
              dsimp only
              rw [cki, ← hi]
              exact W (a + 5) f _ _ _ f1 rfl (dd5 hb hbn hnd N ⟨f1, rfl⟩ n2) (by rw [hi]; exact (((A2 (a + 5)).tr (AgO.pF o8 _)).tr (AgO.pF o7 _)).tr (AgO.pA (obn 16 rfl) _))
          · right
            have c3' : fT_X3_take N (z + 7) 130 K (mv z M (a + 4)) = some (.inr (K, wI (mv z M (a + 4)) (z + 7) 5 (nI f))) := c3
            have r3' : fM_takeWord N 2 (pA (pL (pF S 7 (nI (a + 4))) 14 i x) 15 i (nI fr)) = some (pF (pA (pL (pF S 7 (nI (a + 4))) 14 i x) 15 i (nI fr)) 8 (nI f)) := r3
            rw [c3', r3', bs, cki, ← hi]
            exact W (a + 4) f _ _ _ f1 rfl (dd4 hb hbn hnd N ⟨f1, rfl⟩ n2) (by rw [hi]; exact (A2 (a + 4)).tr (AgO.pF o8 _))
        · right
          have c2' : fT_X3_takeNumber N (z + 7) 0 999999999 K (mv z M (a + 3)) = some (.inr (K, wI (mv z M (a + 3)) (z + 7) 5 (nI f))) := c2
          have r2' : fM_takeNumber N 0 999999999 (pL (pF S 7 (nI (a + 3))) 14 i x) = some (0, pF (pF (pL (pF S 7 (nI (a + 3))) 14 i x) 8 (nI f)) 7 (nI (a + 4))) := r2
          rw [c2', r2', bs]
          dsimp only
          rw [cki, cl, ← hi]
          exact W (a + 3) f _ _ _ f1 rfl (dd3 hb hbn hnd N ⟨f1, rfl⟩ n2) (by rw [hi]; exact (((A1 (a + 3)).tr (AgO.pF o8 _)).tr (AgO.pF o7 _)).tr (AgO.pA (obn 15 rfl) _))
      · right
        have c1' : fT_X3_take N (z + 7) 129 K (mv z M (a + 2)) = some (.inr (K, wI (mv z M (a + 2)) (z + 7) 5 (nI f))) := c1
        have r1' : fM_takeWord N 1 (pL (pF S 7 (nI (a + 2))) 14 i x) = some (pF (pL (pF S 7 (nI (a + 2))) 14 i x) 8 (nI f)) := r1
        rw [c1', r1', bs, ← hi]
        exact W (a + 2) f _ _ _ f1 rfl (dd2 hb hbn hnd N ⟨f1, rfl⟩ n2) (by rw [hi]; exact (A1 (a + 2)).tr (AgO.pF o8 _))
    · right
      rw [f2, f3, tb_r, bs]
      dsimp only
      rw [cki, cl]
      exact FO.mk' f1 rfl (dd1 hb hbn hnd N ⟨f1, rfl⟩ n2) ((((AgO.pF o7 _).tr (AgO.pF o8 _)).tr (AgO.pF o7 _)).tr (AgO.pL (obn 14 rfl) _))
  · right
    have e24 : nd = 24 := by omega
    obtain ⟨f, f1, f2, f3⟩ := rf_nI h N (w := 5) (by omega) (by omega)
    have f2' : fT_X3_refuse N (z + 7) 5 K M = some (.inr (K, wI M (z + 7) 5 (nI f))) := f2
    have f3' : fM_wrong N 5 S = some (pF S 8 (nI f)) := f3
    rw [cls0, ref0, if_neg (show ¬ nI nd < 24 from nI_nlt (b := 24) (by omega) (by omega)), if_pos (show nI nd = 24 by rw [e24]; rfl), f2', f3']
    exact ⟨f, K, _, f1, rfl, rfl, ⟨fun a' _ h => ⟨by rw [cI_wI_ne _ _ _ h], rfl⟩, fun _ _ _ _ => rfl⟩, by rw [cI_w, if_pos ⟨rfl, rfl⟩], pF S 8 (nI f), rfl, ⟨f1, rfl⟩, AgO.pF o8 _, n2⟩
end PDEV
