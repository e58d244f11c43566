/-! the class fills a unit's search list and climb -/
def amR (Ls : Nat → List Nat) (L R : List Nat) : List Nat := R.foldl (fun L r => amL L (Ls r)) L
theorem amR_cons (Ls : Nat → List Nat) (L R : List Nat) (r : Nat) : amR Ls L (r :: R) = amR Ls (amL L (Ls r)) R := rfl
theorem amR_nd (Ls : Nat → List Nat) : ∀ (R L : List Nat), L.Nodup → (amR Ls L R).Nodup := by
  intro R
  induction R with
  | nil => intro L h; exact h
  | cons r R ih => intro L h; rw [amR_cons]; exact ih _ (amL_nd _ _ h)
theorem amR_mem (Ls : Nat → List Nat) (v : Nat) : ∀ (R L : List Nat), v ∈ amR Ls L R → v ∈ L ∨ ∃ r, r ∈ R ∧ v ∈ Ls r := by
  intro R
  induction R with
  | nil => intro L h; exact Or.inl h
  | cons r R ih =>
    intro L h
    rw [amR_cons] at h
    rcases ih _ h with q | ⟨r', q1, q2⟩
    · rcases (amL_mem v _ _).mp q with y | y
      · exact Or.inl y
      · exact Or.inr ⟨r, List.mem_cons_self .., y⟩
    · exact Or.inr ⟨r', List.mem_cons_of_mem _ q1, q2⟩
theorem amR_find (Ls fl : Nat → List Nat) (p : Nat → Bool) : ∀ (R L : List Nat), (∀ r, r ∈ R → (Ls r).find? p = (fl r).find? p) → (amR Ls L R).find? p = (L ++ R.flatMap fl).find? p := by
  intro R
  induction R with
  | nil => intro L _; show L.find? p = _; rw [List.flatMap_nil, List.append_nil]
  | cons r R ih =>
    intro L h
    rw [amR_cons, ih _ (fun r' hr => h r' (List.mem_cons_of_mem _ hr)), List.find?_append, amL_find, List.find?_append, h r (List.mem_cons_self ..), List.flatMap_cons, List.find?_append, List.find?_append, Option.or_assoc]
/-- the lists of the units told -/
def ULs (K : Ka) (M : Cm) (sm nu sl row : Nat) (Ls : Nat → List Nat) : Prop := (cR M sm 5 = some (sm + 6) ∧ kd K (sm + 6) = 26 ∧ nu ≤ le K (sm + 6) ∧ le K (sm + 6) ≤ 24) ∧ ∀ u, u < nu → ∃ tw su, cR M (sm + 6) u = some tw ∧ kd K tw = 8 ∧ cR M tw sl = some su ∧ kd K su = 22 ∧ le K su = (Ls u).length ∧ (Ls u).length ≤ 24 ∧ (tw < row ∧ su < row) ∧ HL M su (Ls u) ∧ ∀ v, v ∈ Ls u → v ≤ u
/-- the roles of the unit that is told -/
def URs (K : Ka) (M : Cm) (tu row nu : Nat) (R : List Nat) : Prop := kd K tu = 8 ∧ cI M tu 7 = nI R.length ∧ R.length ≤ 6 ∧ cR M tu 2 = some (tu + 1) ∧ kd K (tu + 1) = 22 ∧ le K (tu + 1) = 6 ∧ HL M (tu + 1) R ∧ (∀ r, r ∈ R → r < nu) ∧ tu + 1 < row
section FILL
variable {K : Ka} {M M' : Cm} {N sm tu row nu sl : Nat} {R : List Nat} {Ls : Nat → List Nat}
theorem ULs.ag (h : ULs K M sm nu sl row Ls) (hI : ∀ q, q ≠ row → cI M' q = cI M q) (hR : cR M' = cR M) : ULs K M' sm nu sl row Ls := by
  obtain ⟨h1, h2⟩ := h
  refine ⟨by rw [hR]; exact h1, fun u hu => ?_⟩
  obtain ⟨tw, su, w1, w2, w3, w4, w5, w6, w7, w8, w9⟩ := h2 u hu
  exact ⟨tw, su, by rw [hR]; exact w1, w2, by rw [hR]; exact w3, w4, w5, w6, w7, fun j hj => by rw [hI su (by omega)]; exact w8 j hj, w9⟩
theorem URs.ag (h : URs K M tu row nu R) (hI : ∀ q, q ≠ row → cI M' q = cI M q) (hR : cR M' = cR M) : URs K M' tu row nu R := by
  obtain ⟨h1, h2, h3, h4, h5, h6, h7, h8, h9⟩ := h
  exact ⟨h1, by rw [hI tu (by omega)]; exact h2, h3, by rw [hR]; exact h4, h5, h6, fun j hj => by rw [hI (tu + 1) (by omega)]; exact h7 j hj, h8, h9⟩
theorem ULs.ke {K' : Ka} (h : ULs K M sm nu sl row Ls) (hK : ∀ a, a < row → kd K' a = kd K a ∧ le K' a = le K a) (hs : sm + 6 < row) : ULs K' M sm nu sl row Ls := by
  obtain ⟨h1, h2⟩ := h
  refine ⟨by rw [(hK _ hs).1, (hK _ hs).2]; exact h1, fun u hu => ?_⟩
  obtain ⟨tw, su, w1, w2, w3, w4, w5, w6, w7, w8, w9⟩ := h2 u hu
  exact ⟨tw, su, w1, by rw [(hK _ w7.1).1]; exact w2, w3, by rw [(hK _ w7.2).1]; exact w4, by rw [(hK _ w7.2).2]; exact w5, w6, w7, w8, w9⟩
theorem URs.ke {K' : Ka} (h : URs K M tu row nu R) (hK : ∀ a, a < row → kd K' a = kd K a ∧ le K' a = le K a) : URs K' M tu row nu R := by
  obtain ⟨h1, h2, h3, h4, h5, h6, h7, h8, h9⟩ := h
  exact ⟨by rw [(hK tu (by omega)).1]; exact h1, h2, h3, h4, by rw [(hK _ h9).1]; exact h5, by rw [(hK _ h9).2]; exact h6, h7, h8, h9⟩
theorem fs_lp (kk : Nat → Nat → Nat → Int32 → Cm → Option (Int32 × Cm)) (ks : kd K sm = 6) (hkr : kd K row = 22) (hlr : le K row = nu + 1) (hnu : nu < 24) (hN : 30 < N) :
    ∀ (n k : Nat) (L : List Nat) (M : Cm), k ≤ R.length → R.length < n + k → ULs K M sm nu 10 row Ls → URs K M tu row nu R → HL M row L → L.Nodup → (∀ v, v ∈ L → v ≤ nu) →
    ∃ M', lC_X5_fillSearch_12 N K kk n sm tu row (nI L.length) (nI k) M = kk sm tu row (nI (amR Ls L (R.drop k)).length) M' ∧ (∀ q, q ≠ row → cI M' q = cI M q) ∧ cL M' = cL M ∧ cR M' = cR M ∧ HL M' row (amR Ls L (R.drop k)) := by
  intro n
  induction n with
  | zero => intro k L M h1 h2; omega
  | succ n ih =>
    intro k L M h1 h2 hU hR hL hd hv
    obtain ⟨r1, r2, r3, r4, r5, r6, r7, r8, r9⟩ := id hR
    rw [lC_X5_fillSearch_12, gd_k r1, r2]
    by_cases h : k < R.length
    · obtain ⟨u1, u2⟩ := id hU
      have hr := r8 _ (getD_mem h)
      obtain ⟨tw, su, w1, w2, w3, w4, w5, w6, w7, w8, w9⟩ := u2 _ hr
      have bd : ∀ v, v ∈ amL L (Ls (R.getD k 0)) → v ≤ nu := fun v q => by
        rcases (amL_mem v _ _).mp q with y | y
        · exact hv v y
        · have := w9 v y; omega
      have nd := amL_nd (Ls (R.getD k 0)) L hd
      obtain ⟨M1, a1, a2, a3, a4, a5⟩ := am_ok (N := N) w4 w5 w6 hkr (by omega) (show su ≠ row by omega) (fun v q => by have := w9 v q; omega) hN w8 hL (fun v q => by have := hv v q; omega) (by rw [hlr]; exact nd_len _ _ nd (fun v q => by have := bd v q; omega))
      rw [if_neg (nI_ge h (by omega)), gd_k ks, nn_s r4, gd_k r5, r6, ck_n (show k < 6 by omega) (by decide), nn_s u1.1, gd_k u1.2.1, nI_clamp (show k < 2 ^ 31 by omega), r7 k h, ck_n (show R.getD k 0 < le K (sm + 6) by omega) (by omega), nI_clamp (show R.getD k 0 < 2 ^ 31 by omega), nn_s w1, gd_k w2, nn_s w3, a1, bs]
      dsimp only
      rw [nI_1, getD_drop h, amR_cons]
      obtain ⟨M2, b1, b2, b3, b4, b5⟩ := ih (k + 1) _ M1 (by omega) (by omega) (hU.ag a2 a4) (hR.ag a2 a4) a5 nd bd
      exact ⟨M2, b1, fun q hq => (b2 q hq).trans (a2 q hq), b3.trans a3, b4.trans a4, b5⟩
    · have ek : k = R.length := by omega
      subst ek
      rw [if_pos (nI_le (Nat.le_refl _) (by omega)), List.drop_length]
      exact ⟨M, rfl, fun _ _ => rfl, rfl, rfl, hL⟩
theorem fc_lp (kk : Nat → Nat → Nat → Int32 → Cm → Option (Int32 × Cm)) (ks : kd K sm = 6) (hkr : kd K row = 22) (hlr : le K row = nu + 1) (hnu : nu < 24) (hN : 30 < N) :
    ∀ (n k : Nat) (L : List Nat) (M : Cm), k ≤ R.length → R.length < n + k → ULs K M sm nu 11 row Ls → URs K M tu row nu R → HL M row L → L.Nodup → (∀ v, v ∈ L → v ≤ nu) →
    ∃ M', lC_X5_fillClimb_5 N K kk n sm tu row (nI L.length) (nI k) M = kk sm tu row (nI (amR Ls L (R.drop k)).length) M' ∧ (∀ q, q ≠ row → cI M' q = cI M q) ∧ cL M' = cL M ∧ cR M' = cR M ∧ HL M' row (amR Ls L (R.drop k)) := by
  intro n
  induction n with
  | zero => intro k L M h1 h2; omega
  | succ n ih =>
    intro k L M h1 h2 hU hR hL hd hv
    obtain ⟨r1, r2, r3, r4, r5, r6, r7, r8, r9⟩ := id hR
    rw [lC_X5_fillClimb_5, gd_k r1, r2]
    by_cases h : k < R.length
    · obtain ⟨u1, u2⟩ := id hU
      have hr := r8 _ (getD_mem h)
      obtain ⟨tw, su, w1, w2, w3, w4, w5, w6, w7, w8, w9⟩ := u2 _ hr
      have bd : ∀ v, v ∈ amL L (Ls (R.getD k 0)) → v ≤ nu := fun v q => by
        rcases (amL_mem v _ _).mp q with y | y
        · exact hv v y
        · have := w9 v y; omega
      have nd := amL_nd (Ls (R.getD k 0)) L hd
      obtain ⟨M1, a1, a2, a3, a4, a5⟩ := am_ok (N := N) w4 w5 w6 hkr (by omega) (show su ≠ row by omega) (fun v q => by have := w9 v q; omega) hN w8 hL (fun v q => by have := hv v q; omega) (by rw [hlr]; exact nd_len _ _ nd (fun v q => by have := bd v q; omega))
      rw [if_neg (nI_ge h (by omega)), gd_k ks, nn_s r4, gd_k r5, r6, ck_n (show k < 6 by omega) (by decide), nn_s u1.1, gd_k u1.2.1, nI_clamp (show k < 2 ^ 31 by omega), r7 k h, ck_n (show R.getD k 0 < le K (sm + 6) by omega) (by omega), nI_clamp (show R.getD k 0 < 2 ^ 31 by omega), nn_s w1, gd_k w2, nn_s w3, a1, bs]
      dsimp only
      rw [nI_1, getD_drop h, amR_cons]
      obtain ⟨M2, b1, b2, b3, b4, b5⟩ := ih (k + 1) _ M1 (by omega) (by omega) (hU.ag a2 a4) (hR.ag a2 a4) a5 nd bd
      exact ⟨M2, b1, fun q hq => (b2 q hq).trans (a2 q hq), b3.trans a3, b4.trans a4, b5⟩
    · have ek : k = R.length := by omega
      subst ek
      rw [if_pos (nI_le (Nat.le_refl _) (by omega)), List.drop_length]
      exact ⟨M, rfl, fun _ _ => rfl, rfl, rfl, hL⟩
theorem HL.one (M : Cm) (row x : Nat) : HL (wI M row 0 (nI x)) row [x] := fun j hj => by
  have e1 : [x].length = 1 := rfl
  have : j = 0 := by omega
  subst this
  rw [cI_w, if_pos ⟨rfl, rfl⟩]
  rfl
theorem fs_ok (ks : kd K sm = 6) (hkr : kd K row = 22) (hlr : le K row = nu + 1) (hnu : nu < 24) (hN : 30 < N) (hU : ULs K M sm nu 10 row Ls) (hR : URs K M tu row nu R) (h11 : cI M sm 11 = nI nu) (hb : cI M tu 6 = -1 ∨ ∃ v, v < nu ∧ cI M tu 6 = nI v) :
    ∃ M' L, fC_X5_fillSearch N K sm tu row M = some (nI L.length, M') ∧ (∀ q, q ≠ row → cI M' q = cI M q) ∧ cL M' = cL M ∧ cR M' = cR M ∧ HL M' row L ∧ L.Nodup ∧ (∀ v, v ∈ L → v ≤ nu) ∧ L = (if cI M tu 6 < 0 then amR Ls [nu] R else amL (amR Ls [nu] R) (Ls (cI M tu 6).toNatClampNeg)) := by
  have i0 : ∀ q, q ≠ row → cI (wI M row 0 (nI nu)) q = cI M q := fun q hq => cI_wI_ne _ _ _ hq
  have nd1 : [nu].Nodup := List.pairwise_singleton _ _
  have bd1 : ∀ v, v ∈ [nu] → v ≤ nu := fun v q => by rw [List.mem_singleton] at q; omega
  obtain ⟨M1, a1, a2, a3, a4, a5⟩ := fs_lp (R := R) (Ls := Ls) (N := N) (bC_X5_fillSearch_48 N K) ks hkr hlr hnu hN N 0 [nu] (wI M row 0 (nI nu)) (by omega) (by have := hR.2.2.1; omega) (hU.ag i0 rfl) (hR.ag i0 rfl) (HL.one M row nu) nd1 bd1
  rw [List.drop_zero] at a1 a5
  have e0 : fC_X5_fillSearch N K sm tu row M = bC_X5_fillSearch_48 N K sm tu row (nI (amR Ls [nu] R).length) M1 := by
    unfold fC_X5_fillSearch
    rw [gd_k ks, gd_k hkr, h11]
    show ck (nI 0) _ _ = _
    rw [ck_n (show 0 < le K row by omega) (by omega)]
    exact a1
  have nd2 := amR_nd Ls R [nu] nd1
  have bd2 : ∀ v, v ∈ amR Ls [nu] R → v ≤ nu := fun v q => by
    rcases amR_mem Ls v R [nu] q with y | ⟨r, y1, y2⟩
    · exact bd1 v y
    · have y3 := hR.2.2.2.2.2.2.2.1 r y1
      obtain ⟨tw, su, w1, w2, w3, w4, w5, w6, w7, w8, w9⟩ := hU.2 r y3
      have := w9 v y2
      omega
  have a12 : ∀ q, q ≠ row → cI M1 q = cI M q := fun q hq => (a2 q hq).trans (i0 q hq)
  have a16 : cI M1 tu 6 = cI M tu 6 := by rw [a12 tu (by have := hR.2.2.2.2.2.2.2.2; omega)]
  have hU1 : ULs K M1 sm nu 10 row Ls := hU.ag a12 a4
  unfold bC_X5_fillSearch_48 at e0
  rw [gd_k hR.1, a16] at e0
  rcases hb with q | ⟨v, v1, v2⟩
  · rw [q] at e0 ⊢
    rw [if_neg (by decide)] at e0
    rw [if_pos (by decide)]
    exact ⟨M1, _, e0, a12, a3, a4, a5, nd2, bd2, rfl⟩
  · rw [v2] at e0 ⊢
    rw [if_pos (nI_pos' (by omega))] at e0
    rw [if_neg (nI_pos (by omega)), nI_clamp (by omega)]
    obtain ⟨tw, su, w1, w2, w3, w4, w5, w6, w7, w8, w9⟩ := hU1.2 v v1
    have bd : ∀ x, x ∈ amL (amR Ls [nu] R) (Ls v) → x ≤ nu := fun x q => by
      rcases (amL_mem x _ _).mp q with y | y
      · exact bd2 x y
      · have := w9 x y; omega
    have nd := amL_nd (Ls v) _ nd2
    obtain ⟨M2, b1, b2, b3, b4, b5⟩ := am_ok (N := N) w4 w5 w6 hkr (by omega) (show su ≠ row by omega) (fun x q => by have := w9 x q; omega) hN w8 a5 (fun x q => by have := bd2 x q; omega) (by rw [hlr]; exact nd_len _ _ nd (fun x q => by have := bd x q; omega))
    rw [gd_k ks, nn_s hU1.1.1, gd_k hU1.1.2.1, ck_n (show v < le K (sm + 6) by have := hU1.1.2.2.1; omega) (by have := hU1.1.2.2.2; omega), nI_clamp (show v < 2 ^ 31 by omega), nn_s w1, gd_k w2, nn_s w3, b1, bs] at e0
    exact ⟨M2, _, e0, fun q hq => (b2 q hq).trans (a12 q hq), b3.trans a3, b4.trans a4, b5, nd, bd, rfl⟩
theorem fc_ok (ks : kd K sm = 6) (hkr : kd K row = 22) (hlr : le K row = nu + 1) (hnu : nu < 24) (hN : 30 < N) (hU : ULs K M sm nu 11 row Ls) (hR : URs K M tu row nu R) (h11 : cI M sm 11 = nI nu) (hsr : sm ≠ row) :
    ∃ M' L, fC_X5_fillClimb N K sm tu row M = some (nI L.length, M') ∧ (∀ q, q ≠ row → cI M' q = cI M q) ∧ cL M' = cL M ∧ cR M' = cR M ∧ HL M' row L ∧ L.Nodup ∧ (∀ v, v ∈ L → v ≤ nu) ∧ L = amR Ls [] R ++ (if cI M tu 0 = 0 then [nu] else []) := by
  obtain ⟨M1, a1, a2, a3, a4, a5⟩ := fc_lp (R := R) (Ls := Ls) (N := N) (bC_X5_fillClimb_41 N K) ks hkr hlr hnu hN N 0 [] M (by omega) (by have := hR.2.2.1; omega) hU hR (fun j hj => absurd hj (Nat.not_lt_zero _)) List.Pairwise.nil (fun v q => absurd q (by simp))
  rw [List.drop_zero] at a1 a5
  have e0 : fC_X5_fillClimb N K sm tu row M = bC_X5_fillClimb_41 N K sm tu row (nI (amR Ls [] R).length) M1 := a1
  have nd2 := amR_nd Ls R [] List.Pairwise.nil
  have bd2 : ∀ v, v ∈ amR Ls [] R → v < nu := fun v q => by
    rcases amR_mem Ls v R [] q with y | ⟨r, y1, y2⟩
    · exact absurd y (by simp)
    · have y3 := hR.2.2.2.2.2.2.2.1 r y1
      obtain ⟨tw, su, w1, w2, w3, w4, w5, w6, w7, w8, w9⟩ := hU.2 r y3
      have := w9 v y2
      omega
  have ln := nd_len nu _ nd2 bd2
  have a16 : cI M1 tu 0 = cI M tu 0 := by rw [a2 tu (by have := hR.2.2.2.2.2.2.2.2; omega)]
  have a11 : cI M1 sm 11 = nI nu := by rw [a2 sm hsr]; exact h11
  unfold bC_X5_fillClimb_41 bC_X5_fillClimb_64 at e0
  rw [gd_k hR.1, a16] at e0
  by_cases q : cI M tu 0 = 0
  · rw [if_pos q, gd_k hkr, hlr, if_neg (nI_ge (show (amR Ls [] R).length < nu + 1 by omega) (by omega)), gd_k ks, ck_n (show (amR Ls [] R).length < nu + 1 by omega) (by omega), nI_clamp (show (amR Ls [] R).length < 2 ^ 31 by omega), a11, nI_1] at e0
    rw [if_pos q]
    have el : (amR Ls [] R ++ [nu]).length = (amR Ls [] R).length + 1 := by rw [List.length_append]; rfl
    refine ⟨wI M1 row (amR Ls [] R).length (nI nu), amR Ls [] R ++ [nu], by rw [el]; exact e0, fun q hq => (cI_wI_ne _ _ _ hq).trans (a2 q hq), a3, a4, fun j hj => ?_, ?_, fun v hv => ?_, rfl⟩
    · rw [cI_w]
      by_cases w : j = (amR Ls [] R).length
      · rw [if_pos ⟨rfl, w⟩, w, getD_app2]
      · rw [if_neg (fun y => w y.2), getD_app1 (by omega)]
        exact a5 j (by omega)
    · exact List.pairwise_append.mpr ⟨nd2, List.pairwise_singleton _ _, fun x hx y hy => by rw [List.mem_singleton] at hy; have := bd2 x hx; omega⟩
    · rcases List.mem_append.mp hv with y | y
      · have := bd2 v y; omega
      · rw [List.mem_singleton] at y; omega
  · rw [if_neg q] at e0
    rw [if_neg q, List.append_nil]
    exact ⟨M1, _, e0, a2, a3, a4, a5, nd2, fun v hv => by have := bd2 v hv; omega, rfl⟩
theorem mCl_I (M : Cm) (a b q j : Nat) : cI (mCl M a b) q j = if q = b then cI M a j else cI M q j := by
  by_cases h : q = b
  · simp [cI, mCl, va_up, h]
  · simp [cI, mCl, va_up, h]
theorem mCl_o (M : Cm) (a b q : Nat) (h : q ≠ b) : cL (mCl M a b) q = cL M q ∧ cR (mCl M a b) q = cR M q := by
  constructor
  · funext j; simp [cL, mCl, va_up, h]
  · funext j; simp [cR, mCl, va_up, h]
theorem wCp_I (M : Cm) (a b sp dp n q j : Nat) : cI (wCp M a b sp dp n) q j = if q = b then va_cpy (cI M a) (cI M b) sp dp n j else cI M q j := by
  by_cases h : q = b
  · simp only [cI, wCp, va_up, h, if_true]; rfl
  · simp [cI, wCp, va_up, h]
theorem cp_ok {L : List Nat} (hk : kd K row = 22) (hr : row < kz K) (hl : L.length ≤ le K row) (h24 : le K row ≤ 24) (hL : HL M row L) :
    ∃ M', fT_J7_copyOf_59c91 N row (nI L.length) K M = some (.inl (kz K, kNew K 22 L.length L.length, M')) ∧ (∀ q, q ≠ kz K → cI M' q = cI M q ∧ cL M' q = cL M q ∧ cR M' q = cR M q) ∧ HL M' (kz K) L := by
  unfold fT_J7_copyOf_59c91
  rw [gd_k hk]
  by_cases e : L.length = le K row
  · rw [if_pos (by rw [e]), ← e]
    refine ⟨mCl M row (kz K), rfl, fun q hq => ⟨by funext j; rw [mCl_I, if_neg hq], mCl_o _ _ _ _ hq⟩, fun j hj => ?_⟩
    rw [mCl_I, if_pos rfl]
    exact hL j hj
  · have k1 : kd (kNew K 22 L.length L.length) row = 22 := by rw [kd_n, if_neg (by omega)]; exact hk
    have k2 : kd (kNew K 22 L.length L.length) (kz K) = 22 := by rw [kd_n, if_pos rfl]
    have l1 : le (kNew K 22 L.length L.length) row = le K row := by rw [le_n, if_neg (by omega)]
    have l2 : le (kNew K 22 L.length L.length) (kz K) = L.length := by rw [le_n, if_pos rfl]
    have cl : (nI L.length).toNatClampNeg = L.length := nI_clamp (by omega)
    have c0 : (0 : Int32).toNatClampNeg = 0 := rfl
    rw [if_neg (fun q => e ((nI_eq (by omega) (by omega)).mp q)), gd_t (by rw [cl]; exact decide_eq_true ⟨nI_pos (by omega), by omega⟩)]
    unfold bT_J7_copyOf_59c91_17
    rw [cl, gd_k k1, gd_k k2, l1, l2, if_pos (nI_lt (show L.length < le K row by omega) (by omega)), cl, c0, gd_t (by unfold cpok; rw [cl, c0]; exact decide_eq_true ⟨by decide, by decide, nI_pos (by omega), by omega, by omega⟩)]
    refine ⟨_, rfl, fun q hq => ⟨?_, ?_, ?_⟩, fun j hj => ?_⟩
    · funext j
      rw [wCp_I, if_neg hq, cI_z, if_neg hq]
    · funext j
      show cL (mZ M (kz K)) q j = _
      rw [cL_z, if_neg hq]
    · funext j
      show cR (mZ M (kz K)) q j = _
      rw [cR_z, if_neg hq]
    · rw [wCp_I, if_pos rfl]
      unfold va_cpy
      rw [if_pos ⟨by omega, by omega⟩, cI_z, if_neg (show row ≠ kz K by omega), show 0 + (j - 0) = j by omega]
      exact hL j hj
end FILL
