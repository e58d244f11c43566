/-! runs: the roles of a start, walked by the reference, brought by the class */ -/
/-- the words that bring a list, from q on -/
def WDS (cc st : Nat) (M0 : Cm) (q : Nat) (L : List Nat) : Prop := ∀ i, i < L.length → cL M0 (st + 10) (q + i) = wd (nI 7) (nI (L.getD i 0)) 0 ∧ q + i < cc
def TRs (z b st nd nu lim B0 N : Nat) (K : Ka) (M0 : Cm) (S0 : Ms) (Mb : Cm) (Sb : Ms) (cc dm : Nat) (cl : Nat → List Nat) (h fl t0 : Nat) (U : List Nat) (who : Int32) (u r : Nat) : Prop :=
  ∀ (W : List Nat) (t q : Nat) (M : Cm) (S : Ms) (k : Nat), (∀ x, x ≤ r → x ∈ W → ∀ y, y ∈ cl x → y ∈ W) → WLK u W S → BRS z b st nd nu lim B0 M0 S0 Mb Sb t h fl t0 U who q M S → WDS cc st M0 q (FLt b S0 W (cl r)) → dn Sb (wt b nu S0) nu + kR S0 b r + 2 ≤ k + wt b nu S0 u → t + gS nu S + 2 * (FLt b S0 W (cl r)).length ≤ 1000000 →
    ∃ e S', gT N k 2 (nI u) (nI r) 0 0 0 S = some (e, S') ∧ BOUT z b st nd nu lim B0 N K M0 S0 Mb Sb t h fl t0 U who (q + (FLt b S0 W (cl r)).length) (t + gS nu S + 2 * (FLt b S0 W (cl r)).length) M e S' ∧ (e = 0 → WLK u (W ++ cl r) S')
section ROLES
variable {z b st nd nu lim nh no h fl t0 c B0 N t sz ts dm : Nat} {clo who : Int32} {U : List Nat} {K : Ka} {M0 M M1 M2 Mb Mf : Cm} {S0 S S1 S2 Sb S' : Ms} {mk : List Mk} {rc cc : Nat} {g : Nat → Nat × Nat × Nat} {pi : Nat → Nat} {J : Nat → Jt} {cl : Nat → List Nat}
theorem WDS.app {q : Nat} {A B : List Nat} (h : WDS cc st M0 q (A ++ B)) : WDS cc st M0 q A ∧ WDS cc st M0 (q + A.length) B := by
  refine ⟨fun i hi => ?_, fun i hi => ?_⟩
  · have := h i (by rw [List.length_append]; omega)
    rw [gD_l A B hi] at this
    exact this
  · have := h (A.length + i) (by rw [List.length_append]; omega)
    rw [gD_r, ← Nat.add_assoc] at this
    exact this
/-- what stands still of the reference's rows -/
theorem BRS.row {q : Nat} (s : BRS z b st nd nu lim B0 M0 S0 Mb Sb t h fl t0 U who q M S) : (∀ k, stR k → mA S k = mA S0 k) ∧ ∀ k, stF k → mF S k = mF S0 k := by
  obtain ⟨⟨nh, no, -, -, d, -⟩, -⟩ := s
  exact ⟨d.1.2.2.2.2.2.1, d.1.2.2.2.2.1⟩
theorem BRS.dn {q u : Nat} (w : Nat → Nat) (s : BRS z b st nd nu lim B0 M0 S0 Mb Sb t h fl t0 U who q M S) (hu : u ∈ U) (hb : mA Sb 54 u = 0) : dn S w nu + w u ≤ dn Sb w nu ∧ u < nu ∧ mA S 54 u = 1 := by
  obtain ⟨⟨nh, no, -, -, -, -, -, ⟨c1, c2, c3, c4⟩, -⟩, -, -, pb, -⟩ := s
  obtain ⟨h1, h2⟩ := c3 u hu
  exact ⟨dn_lt w pb.2.2.2.2.1 hb (by rw [h2]; decide) nu h1, h1, h2⟩
theorem br_lp (X : CDX z b st nd nu K M0 S0 mk rc cc g pi J cl) {u v nr k : Nat} (hv : v < nu) (n1 : nr ≤ 6) (n2 : mA S0 23 (24 * b + v) = nI nr) (n3 : ∀ k, k < nr → ∃ r, r < v ∧ mA S0 24 (6 * (24 * b + v) + k) = nI r ∧ mA S0 20 (24 * b + r) = 0) (hkk : dn Sb (wt b nu S0) nu + kR S0 b v + 1 ≤ k + wt b nu S0 u) {W : List Nat} (hW : ∀ x, x < v → x ∈ W → ∀ y, y ∈ cl x → y ∈ W)
    (hTR : ∀ r, r < v → mA S0 20 (24 * b + r) = 0 → TRs z b st nd nu lim B0 N K M0 S0 Mb Sb cc dm cl h fl t0 U who u r) {q : Nat} (hwd : WDS cc st M0 q (FLt b S0 W (clr S0 b cl v nr))) {kk : Int32 → Ms → Option (Int32 × Ms)} :
    ∀ (j i t n : Nat) (M : Cm) (S : Ms), i + j = nr → BRS z b st nd nu lim B0 M0 S0 Mb Sb t h fl t0 U who (q + (FLt b S0 W (clr S0 b cl v i)).length) M S → WLK u (W ++ clr S0 b cl v i) S → j + 1 < n → t + gS nu S + 2 * ((FLt b S0 W (clr S0 b cl v nr)).length - (FLt b S0 W (clr S0 b cl v i)).length) ≤ 1000000 →
      ∃ e S', rlp N (gT N k) (nI u) (nI (24 * b + v)) kk n 0 (nI i) S = kk e S' ∧ BOUT z b st nd nu lim B0 N K M0 S0 Mb Sb t h fl t0 U who (q + (FLt b S0 W (clr S0 b cl v nr)).length) (t + gS nu S + 2 * ((FLt b S0 W (clr S0 b cl v nr)).length - (FLt b S0 W (clr S0 b cl v i)).length)) M e S' ∧ (e = 0 → WLK u (W ++ clr S0 b cl v nr) S') := by
  have hn24 : nu ≤ 24 := X.1.2.1
  obtain ⟨b2, -⟩ := X.b2
  have vi : (nI (24 * b + v)).toNatClampNeg = 24 * b + v := nI_clamp (by omega)
  intro j
  induction j with
  | zero =>
    intro i t n M S hi hs hk hn hT
    have e : i = nr := by omega
    subst e
    obtain ⟨n', rfl⟩ : ∃ n', n = n' + 1 := ⟨n - 1, by omega⟩
    obtain ⟨A, -⟩ := hs.row
    rw [rlp, ck_n (show 24 * b + v < 48 by omega) (by decide), vi, A 23 (by unfold stR; omega), n2, if_pos (Int32.le_refl _)]
    exact ⟨0, S, rfl, Or.inl ⟨rfl, t, M, rfl, hs, by omega, Nat.le_refl _⟩, fun _ => hk⟩
  | succ j ih =>
    intro i t n M S hi hs hk hn hT
    obtain ⟨n', rfl⟩ : ∃ n', n = n' + 1 := ⟨n - 1, by omega⟩
    obtain ⟨n'', hn''⟩ : ∃ n'', n' = n'' + 1 := ⟨n' - 1, by omega⟩
    obtain ⟨A, -⟩ := hs.row
    obtain ⟨r, r1, r2, r3⟩ := n3 i (by omega)
    have er : rlx S0 b v i = r := by unfold rlx; rw [r2, nI_clamp (by omega)]
    have ix : (6 : Int32) * nI (24 * b + v) + nI i = nI (6 * (24 * b + v) + i) := by rw [show (6 : Int32) = nI 6 from rfl, nI_mul, nI_add]
    rw [rlp, ck_n (show 24 * b + v < 48 by omega) (by decide), vi, A 23 (by unfold stR; omega), n2, if_neg (show ¬ nI nr ≤ nI i from nI_ge (by omega) (by omega)), if_pos rfl, ix, ck_n (show 6 * (24 * b + v) + i < 288 by omega) (by decide), nI_clamp (show 6 * (24 * b + v) + i < 2 ^ 31 by omega), A 24 (by unfold stR; omega), r2]
    have ec : clr S0 b cl v (i + 1) = clr S0 b cl v i ++ (cl r).filter (fun x => !(clr S0 b cl v i).contains x) := by
      rw [clr]
      show _ ++ (cl (rlx S0 b v i)).filter _ = _
      rw [er]
    have e1 : FLt b S0 W (clr S0 b cl v (i + 1)) = FLt b S0 W (clr S0 b cl v i) ++ FLt b S0 (W ++ clr S0 b cl v i) (cl r) := by rw [ec, FLt_app]
    obtain ⟨C, hC⟩ := clr_px S0 b cl v W (i + 1) j
    rw [show i + 1 + j = nr by omega] at hC
    have hw2 : WDS cc st M0 (q + (FLt b S0 W (clr S0 b cl v i)).length) (FLt b S0 (W ++ clr S0 b cl v i) (cl r)) := by
      have w := hwd
      rw [hC, e1] at w
      exact w.app.1.app.2
    have l1 : (FLt b S0 W (clr S0 b cl v (i + 1))).length = (FLt b S0 W (clr S0 b cl v i)).length + (FLt b S0 (W ++ clr S0 b cl v i) (cl r)).length := by rw [e1, List.length_append]
    have l2 : (FLt b S0 W (clr S0 b cl v nr)).length = (FLt b S0 W (clr S0 b cl v (i + 1))).length + C.length := by rw [hC, List.length_append]
    have klt := kR_lt S0 b r1 r3
    have clo2 : ∀ x, x ≤ r → x ∈ W ++ clr S0 b cl v i → ∀ y, y ∈ cl x → y ∈ W ++ clr S0 b cl v i := fun x hx hm y hy => by
      rcases List.mem_append.mp hm with w | w
      · exact List.mem_append_left _ (hW x (by omega) w y hy)
      · obtain ⟨i', w1, w2⟩ := (clr_mem S0 b cl v x i).mp w
        obtain ⟨r', v1, v2, v3⟩ := n3 i' (by omega)
        have e : rlx S0 b v i' = r' := by unfold rlx; rw [v2, nI_clamp (by omega)]
        rw [e] at w2
        refine List.mem_append_right _ ((clr_mem S0 b cl v y i).mpr ⟨i', w1, ?_⟩)
        rw [e]
        exact cl_tr X (r' + 1) r' (by omega) (by omega) x w2 y hy
    obtain ⟨e, S', a1, a2, a3⟩ := hTR r r1 r3 (W ++ clr S0 b cl v i) t (q + (FLt b S0 W (clr S0 b cl v i)).length) M S k clo2 hk hs hw2 (by omega) (by omega)
    rw [a1, bs]
    dsimp only
    have wk : WLK u ((W ++ clr S0 b cl v i) ++ cl r) S' → WLK u (W ++ clr S0 b cl v (i + 1)) S' := fun w => w.cg (fun x => by
      rw [ec, List.mem_append, List.mem_append, List.mem_append, List.mem_append, List.mem_filter]
      constructor
      · rintro ((w | w) | w)
        · exact Or.inl w
        · exact Or.inr (Or.inl w)
        · by_cases y : x ∈ clr S0 b cl v i
          · exact Or.inr (Or.inl y)
          · exact Or.inr (Or.inr ⟨w, by simp [y]⟩)
      · rintro (w | w | w)
        · exact Or.inl (Or.inl w)
        · exact Or.inl (Or.inr w)
        · exact Or.inr w.1)
    by_cases e0 : e = 0
    · subst e0
      rcases a2 with ⟨-, t', M', q1, q2, q3, q4⟩ | ⟨w, -⟩ | ⟨w, -⟩
      · have q2' : BRS z b st nd nu lim B0 M0 S0 Mb Sb t' h fl t0 U who (q + (FLt b S0 W (clr S0 b cl v (i + 1))).length) M' S' := by rw [l1, ← Nat.add_assoc]; exact q2
        obtain ⟨e, S'', z1, z2, z3⟩ := ih (i + 1) t' n' M' S' (by omega) q2' (wk (a3 rfl)) (by omega) (by omega)
        rw [nI_1]
        exact ⟨e, S'', z1, z2.pre q1 q4 (by omega), z3⟩
      · exact absurd w (by decide)
      · exact absurd w (by decide)
    · refine ⟨e, S', ?_, ?_, fun w => absurd w e0⟩
      · rw [hn'', rlp, ck_n (show 24 * b + v < 48 by omega) (by decide), if_neg e0]
        split <;> rfl
      · rcases a2 with ⟨w, -⟩ | ⟨rfl, t', j', M', q1, q2, q3, q4, q5, q6, q7, q8⟩ | w
        · exact absurd w e0
        · exact Or.inr (Or.inl ⟨rfl, t', j', M', q1, q2, q3, q4, q5, q6, by omega, q8⟩)
        · exact Or.inr (Or.inr w)
theorem tr_ok (X : CDX z b st nd nu K M0 S0 mk rc cc g pi J cl) (hN : 1000000 < N) (hC : CUs z b st nd nu lim B0 N K M0 S0 dm) {u : Nat} (huU : u ∈ U) (hub : mA Sb 54 u = 0) (hdb : dn Sb (fun _ => 1) nu ≤ dm + 1) : ∀ (n r : Nat), r < n → r < nu → mA S0 20 (24 * b + r) = 0 → TRs z b st nd nu lim B0 N K M0 S0 Mb Sb cc dm cl h fl t0 U who u r := by
  have hn24 : nu ≤ 24 := X.1.2.1
  obtain ⟨b2, -⟩ := X.b2
  intro n
  induction n with
  | zero => intro r hr; omega
  | succ n ih =>
    intro r hr hrn r20 W t q M S k clo wlk s hwd hk hT
    obtain ⟨k1, rfl⟩ : ∃ k1, k = k1 + 1 := ⟨k - 1, by
      have := (s.dn (wt b nu S0) huU hub).1
      omega⟩
    obtain ⟨A, F⟩ := s.row
    obtain ⟨-, un, -⟩ := s.dn (wt b nu S0) huU hub
    have e11 : mF S 11 = nI b := (F 11 (by unfold stF; omega)).trans X.1.2.2.2.2.2.2.2.1
    obtain ⟨nr, n1, n2, n3, n4, n5⟩ := X.cls hrn
    rw [if_pos r20] at n4
    rw [gT_2]
    unfold fM_touchRole
    rw [ix24, ck_n (show 24 * u + r < 576 by omega) (by decide), nI_clamp (show 24 * u + r < 2 ^ 31 by omega), wlk r (by omega)]
    by_cases hr : r ∈ W
    · have sub : ∀ x, x ∈ cl r → x ∈ W := clo r (Nat.le_refl _) hr
      rw [if_pos hr, if_neg (by decide)]
      rw [FLt_nil b S0 sub] at hT hwd ⊢
      refine ⟨0, S, rfl, Or.inl ⟨rfl, t, M, rfl, s, by omega, Nat.le_refl _⟩, fun _ => wlk.cg (fun x => ?_)⟩
      rw [List.mem_append]
      exact ⟨fun w => Or.inl w, fun w => w.elim id (sub x)⟩
    · rw [if_neg hr, if_pos rfl, ck_n (show 24 * u + r < 576 by omega) (by decide), e11, ix24, rlp_r]
      have r9 : R93 u S (pA S 93 (24 * u + r) (vp_nar .boolean 1)) := ⟨fun k => rfl, fun k hk => mA_Ane _ _ _ hk, rfl, fun v x hv hx => by rw [mA_A, if_neg (by omega)]⟩
      have s1 := s.r93 r9 hub
      have w1 : WLK u (W ++ [r]) (pA S 93 (24 * u + r) (vp_nar .boolean 1)) := fun x hx => by
        rw [mA_A]
        by_cases e : x = r
        · rw [if_pos ⟨rfl, by omega⟩, if_pos (by rw [e]; exact List.mem_append_right _ (List.mem_singleton.mpr rfl))]
          rfl
        · rw [if_neg (show ¬ (93 = 93 ∧ 24 * u + x = 24 * u + r) by omega), wlk x hx]
          by_cases y : x ∈ W
          · rw [if_pos y, if_pos (List.mem_append_left _ y)]
          · rw [if_neg y, if_neg (fun w => (List.mem_append.mp w).elim y (fun w => e (List.mem_singleton.mp w)))]
      have rcl : ∀ x, x ∈ clr S0 b cl r nr → x < r := fun x hx => by
        obtain ⟨i, w1, w2⟩ := (clr_mem S0 b cl r x nr).mp hx
        obtain ⟨r', v1, v2, v3⟩ := n3 i w1
        have e : rlx S0 b r i = r' := by unfold rlx; rw [v2, nI_clamp (by omega)]
        rw [e] at w2
        obtain ⟨-, -, -, -, -, n5'⟩ := X.cls (show r' < nu by omega)
        have := (n5' x w2).1
        omega
      have eF : FLt b S0 W (cl r) = FLt b S0 (W ++ [r]) (clr S0 b cl r nr) ++ (if mA S0 21 (24 * b + r) = 0 then [] else [r]) := by
        rw [n4, FLt_two]
        congr 1
        · refine FLt_ext b S0 (fun x hx => ⟨fun w => List.mem_append_left _ w, fun w => ?_⟩)
          rcases List.mem_append.mp w with w | w
          · exact w
          · have := rcl x hx
            rw [List.mem_singleton] at w
            omega
        · unfold FLt
          by_cases y : mA S0 21 (24 * b + r) = 0
          · rw [if_pos y]; simp [hr, y]
          · rw [if_neg y]; simp [hr, y]
      rw [eF] at hwd hT
      obtain ⟨wd1, wd2⟩ := hwd.app
      have hW1 : ∀ x, x < r → x ∈ W ++ [r] → ∀ y, y ∈ cl x → y ∈ W ++ [r] := fun x hx hm y hy => by
        rcases List.mem_append.mp hm with w | w
        · exact List.mem_append_left _ (clo x (by omega) w y hy)
        · rw [List.mem_singleton] at w; omega
      rw [List.length_append] at hT
      have g9 := r9.gs (nu := nu)
      have c0 : FLt b S0 (W ++ [r]) (clr S0 b cl r 0) = [] := rfl
      obtain ⟨e, S', a1, a2, a3⟩ := br_lp X (k := k1) (kk := bM_touchRole_85 N (gT N k1) (nI r) (nI (24 * b + r))) hrn n1 n2 n3 (by omega) hW1 (fun r' h1 h2 => ih r' (by omega) (by omega) h2) wd1 nr 0 t N M _ (by omega) (by rw [c0]; exact s1) (by rw [show W ++ [r] ++ clr S0 b cl r 0 = W ++ [r] from List.append_nil _]; exact w1) (by omega) (by rw [c0, List.length_nil]; omega)
      rw [c0, List.length_nil, Nat.sub_zero] at a2
      rw [show (0 : Int32) = nI 0 from rfl]
      have a1' : rlp N (gT N k1) (nI u) (nI (24 * b + r)) (bM_touchRole_85 N (gT N k1) (nI r) (nI (24 * b + r))) N (nI 0) (nI 0) (pA S 93 (24 * u + r) (vp_nar .boolean 1)) = bM_touchRole_85 N (gT N k1) (nI r) (nI (24 * b + r)) e S' := a1
      rw [a1']
      unfold bM_touchRole_85 bM_touchRole_107 bM_touchRole_109
      by_cases e0 : e = 0
      · subst e0
        rcases a2 with ⟨-, t', M', q1, q2, q3, q4⟩ | ⟨w, -⟩ | ⟨w, -⟩
        · obtain ⟨A', -⟩ := q2.row
          have wk : WLK u (W ++ cl r) S' := (a3 rfl).cg (fun x => by
            rw [n4]
            simp only [List.mem_append, List.mem_singleton]
            constructor
            · rintro ((w | w) | w)
              · exact Or.inl w
              · exact Or.inr (Or.inr w)
              · exact Or.inr (Or.inl w)
            · rintro (w | w | w)
              · exact Or.inl (Or.inl w)
              · exact Or.inr w
              · exact Or.inl (Or.inr w))
          rw [if_pos rfl, ck_n (show 24 * b + r < 48 by omega) (by decide), nI_clamp (show 24 * b + r < 2 ^ 31 by omega), A' 21 (by unfold stR; omega)]
          by_cases y : mA S0 21 (24 * b + r) = 0
          · rw [if_pos y]
            rw [if_pos y, List.append_nil] at eF
            rw [eF]
            exact ⟨0, S', rfl, Or.inl ⟨rfl, t', M', q1, q2, by omega, q4⟩, fun _ => wk⟩
          · rw [if_neg y] at eF hT wd2 ⊢
            have l1 : (FLt b S0 W (cl r)).length = (FLt b S0 (W ++ [r]) (clr S0 b cl r nr)).length + 1 := by rw [eF, List.length_append]; rfl
            rw [List.length_singleton] at hT
            obtain ⟨d1, -⟩ := q2.dn (wt b nu S0) huU hub
            obtain ⟨d2, -, st1⟩ := q2.dn (fun _ => 1) huU hub
            obtain ⟨k2, rfl⟩ : ∃ k2, k1 = k2 + 1 := ⟨k1 - 1, by omega⟩
            have wd3 := wd2 0 (by simp)
            obtain ⟨e, S'', b1, b2', b3⟩ := brg X hN hC q2 hrn wd3.1 wd3.2 (by omega) (k := k2) (by omega) (by omega)
            rw [b1, bs]
            refine ⟨e, S'', rfl, ?_, fun he => ?_⟩
            · rw [l1, ← Nat.add_assoc]
              exact b2'.pre q1 q4 (by omega)
            · intro x hx
              rw [b3 u x (by rw [st1]; decide) hx he]
              exact wk x hx
        · exact absurd w (by decide)
        · exact absurd w (by decide)
      · rw [if_neg e0]
        refine ⟨e, S', rfl, ?_, fun w => absurd w e0⟩
        rw [eF, List.length_append]
        rcases a2 with ⟨w, -⟩ | ⟨rfl, t', j', M', q1, q2, q3, q4, q5, q6, q7, q8⟩ | w
        · exact absurd w e0
        · exact Or.inr (Or.inl ⟨rfl, t', j', M', q1, q2, q3, q4, q5, q6, by omega, q8⟩)
        · exact Or.inr (Or.inr w)
end ROLES
