/-! the head of a unit, while it is read -/
def hrw (i k j : Nat) : Prop := ((20 ≤ k ∧ k ≤ 23 ∨ k = 25 ∨ k = 30 ∨ k = 31 ∨ k = 33) ∧ j = i) ∨ (k = 24 ∧ 6 * i ≤ j ∧ j < 6 * i + 6)
def HFr (i : Nat) (S S' : Ms) : Prop := (∀ k, k ≠ 7 → mF S' k = mF S k) ∧ (∀ k j, ¬ hrw i k j → mA S' k j = mA S k j) ∧ mL S' = mL S
def HC (z tu nu : Nat) (M M' : Cm) : Prop := (∀ q, q ≠ z + 7 → q < tu → cI M' q = cI M q) ∧ (∀ s, s ≠ 2 → s ≠ 3 → s ≠ 4 → cI M' (z + 7) s = cI M (z + 7) s) ∧ cI M' (z + 7) 4 = nI nu ∧ ∀ q, q < tu → cL M' q = cL M q ∧ cR M' q = cR M q
def UO (K : Ka) (M : Cm) (tu : Nat) (x1 x2 bI : Int32) (R : List Nat) : Prop := kd K tu = 8 ∧ (∀ sl kind len, (sl, kind, len) ∈ ([(2, 22, 6), (3, 23, 8), (4, 22, 8), (5, 24, 8)] : List (Nat × Nat × Nat)) → cR M tu sl = some (tu + sl - 1) ∧ kd K (tu + sl - 1) = kind ∧ le K (tu + sl - 1) = len) ∧ cI M tu 0 = x1 ∧ cI M tu 1 = x2 ∧ cI M tu 6 = bI ∧ cI M tu 7 = nI R.length ∧ cI M tu 8 = 0 ∧ cI M tu 9 = 0 ∧ cI M tu 13 = -1 ∧ HL M (tu + 1) R ∧ ∀ s, cI M (tu + 4) s = 0
def UH (S : Ms) (i : Nat) (x1 x2 bI : Int32) (R : List Nat) : Prop := mA S 20 i = x1 ∧ mA S 21 i = x2 ∧ mA S 22 i = bI ∧ mA S 23 i = nI R.length ∧ (∀ k, k < R.length → mA S 24 (6 * i + k) = nI (R.getD k 0)) ∧ mA S 25 i = 0 ∧ mA S 30 i = 0 ∧ mA S 31 i = 0 ∧ mA S 33 i = -1
def HS (z bn sm size t nd nu nm tu : Nat) (K1 : Ka) (M : Cm) (S : Ms) (M' : Cm) (S' : Ms) (a : Nat) (x1 x2 bI : Int32) (R : List Nat) : Prop :=
  (PT z K1 M' S' size t a ∧ NN z K1 M' S' bn sm nd nu nm) ∧ (HC z tu nu M M' ∧ HFr (24 * bn + nu) S S') ∧ (UO K1 M' tu x1 x2 bI R ∧ UH S' (24 * bn + nu) x1 x2 bI R) ∧ (R.length ≤ 6 ∧ ∀ r, r ∈ R → r < nu ∧ mA S 20 (24 * bn + r) = 0)
/-- what stands still meanwhile -/
def HE (z b bn sm t nu tu : Nat) (K0 K1 : Ka) (M : Cm) (S : Ms) : Prop := ((b = 0 ∨ b = 1) ∧ bn = 1 - b) ∧ (z + 174 ≤ kz K0 ∧ kz K0 ≤ sm ∧ sm + 11 ≤ tu) ∧ KB K0 K1 ∧ (nu < 24 ∧ t ≤ 4000) ∧ (cR M sm 5 = some (sm + 6) ∧ kd K1 (sm + 6) = 26 ∧ nu ≤ le K1 (sm + 6) ∧ le K1 (sm + 6) ≤ 24) ∧ ∀ u, u < nu → ∃ tw, cR M (sm + 6) u = some tw ∧ kd K1 tw = 8 ∧ (sm + 11 ≤ tw ∧ tw < tu) ∧ cI M tw 0 = mA S 20 (24 * bn + u) ∧ (mA S 20 (24 * bn + u) = 0 ∨ mA S 20 (24 * bn + u) = 1)
section HEAD
variable {N z b bn sm size t nd nu nm tu : Nat} {K0 K1 : Ka} {M M' M'' : Cm} {S S' S'' : Ms} {a : Nat} {x1 x2 bI : Int32} {R : List Nat} {f r : Nat} {α : Type}
theorem HFr.ago (hb : b = 0 ∨ b = 1) (hbn : bn = 1 - b) (hu : nu < 24) (h : HFr (24 * bn + nu) S S') : AgO b S S' := by
  refine ⟨fun k hk => h.1 k hk.1, fun k j hk => h.2.1 k j (fun q => ?_), fun k j _ => by rw [h.2.2]⟩
  rcases q with ⟨q1, q2⟩ | ⟨q1, q2, q3⟩
  · have : bw k = 24 := by
      rcases q1 with ⟨y1, y2⟩ | y | y | y | y
      · have : k = 20 ∨ k = 21 ∨ k = 22 ∨ k = 23 := by omega
        rcases this with y | y | y | y <;> (subst y; rfl)
      all_goals (subst y; rfl)
    exact ob_n hb hbn this (by decide) (by omega) (by omega) hk
  · subst q1
    exact ob_n hb hbn (w := 144) rfl (by decide) (by omega) (by omega) hk
theorem HC.aga (h : HC z tu nu M M') (hk : kz K0 ≤ tu) : AgA z K0 M M' := ⟨fun q h1 h2 => ⟨h.1 q h2 (by omega), (h.2.2.2 q (by omega)).1⟩, fun q s h1 _ => by rw [(h.2.2.2 q (by omega)).2]⟩
theorem HFr.p7 (h : HFr (24 * bn + nu) S S') (v : Int32) : HFr (24 * bn + nu) S (pF S' 7 v) := ⟨fun k hk => by rw [mF_F, if_neg hk]; exact h.1 k hk, h.2.1, h.2.2⟩
theorem HC.mv (h : HC z tu nu M M') (j : Nat) : HC z tu nu M (mv z M' j) := ⟨fun q h1 h2 => by rw [mv_I j h1]; exact h.1 q h1 h2, fun s h2 h3 h4 => by rw [mv_o j h2 h3]; exact h.2.1 s h2 h3 h4, by rw [mv_o j (by decide) (by decide)]; exact h.2.2.1, h.2.2.2⟩
theorem HS.hz (e : HE z b bn sm t nu tu K0 K1 M S) : z + 174 ≤ sm ∧ sm + 11 ≤ tu ∧ kz K0 ≤ tu := by have := e.2.1; omega
theorem HS.mv (e : HE z b bn sm t nu tu K0 K1 M S) (h : HS z bn sm size t nd nu nm tu K1 M S M' S' a x1 x2 bI R) {j : Nat} (hj : j ≤ t) : HS z bn sm size t nd nu nm tu K1 M S (mv z M' j) (pF S' 7 (nI j)) j x1 x2 bI R := by
  have hz := HS.hz e
  obtain ⟨⟨p, n⟩, ⟨c, f⟩, ⟨o, u⟩, q⟩ := h
  refine ⟨⟨p.mv hj, n.mv (by omega) j _⟩, ⟨c.mv j, f.p7 _⟩, ⟨?_, u⟩, q⟩
  unfold UO HL at o ⊢
  rw [mv_I j (show tu ≠ z + 7 by omega), mv_I j (show tu + 1 ≠ z + 7 by omega), mv_I j (show tu + 4 ≠ z + 7 by omega)]
  exact o
/-- a fault in the head -/
theorem HS.ft (e : HE z b bn sm t nu tu K0 K1 M S) (h : HS z bn sm size t nd nu nm tu K1 M S M' S' a x1 x2 bI R) (hf : FLT f) {c : Option (α ⊕ (Ka × Cm))} {o : Option Ms} (hc : c = some (.inr (K1, wI M' (z + 7) 5 (nI f)))) (ho : o = some S'') (hd : DS S'' f) (hS : AgO b S' S'') : FT z b K0 M S c o := by
  have hz := HS.hz e
  exact ⟨f, K1, _, S'', hf, hc, e.2.2.1, (h.2.1.1.aga hz.2.2).tr ⟨fun q _ hq => ⟨cI_wI_ne _ _ _ hq, rfl⟩, fun _ _ _ _ => rfl⟩, by rw [cI_w, if_pos ⟨rfl, rfl⟩], ho, hd, (h.2.1.2.ago e.1.1 e.1.2 e.2.2.2.1.1).tr hS⟩
theorem NN.wI {q s : Nat} {v : Int32} (hq : sm ≠ q) (h : NN z K1 M S bn sm nd nu nm) : NN z K1 (wI M q s v) S bn sm nd nu nm := by
  unfold NN at h ⊢
  rw [cI_wI_ne _ _ _ hq]
  exact h
theorem NN.pA {k i : Nat} {v : Int32} (h13 : 13 ≠ k) (h18 : 18 ≠ k) (h35 : 35 ≠ k) (h : NN z K1 M S bn sm nd nu nm) : NN z K1 M (pA S k i v) bn sm nd nu nm := by
  unfold NN at h ⊢
  rw [mA_Ane _ _ _ h13, mA_Ane _ _ _ h18, mA_Ane _ _ _ h35]
  exact h
theorem PT.wI {q s : Nat} {v : Int32} (hq : z + 174 ≤ q) (h : PT z K1 M S size t a) : PT z K1 (wI M q s v) S size t a :=
  h.cst (fun k hk => cI_wI_ne _ _ _ (by omega)) (fun k _ => by rw [cI_wI_ne _ _ _ (by omega)]) rfl rfl
theorem HC.wI {q s : Nat} {v : Int32} (hq : tu ≤ q) (hz : z + 174 ≤ tu) (h : HC z tu nu M M') : HC z tu nu M (wI M' q s v) :=
  ⟨fun k h1 h2 => by rw [cI_wI_ne _ _ _ (by omega)]; exact h.1 k h1 h2, fun k h2 h3 h4 => by rw [cI_wI_ne _ _ _ (by omega)]; exact h.2.1 k h2 h3 h4, by rw [cI_wI_ne _ _ _ (by omega)]; exact h.2.2.1, h.2.2.2⟩
theorem HFr.pA {k j i : Nat} {v : Int32} (hk : hrw i k j) (h : HFr i S S') : HFr i S (pA S' k j v) :=
  ⟨h.1, fun k' j' hn => by rw [mA_A, if_neg (fun y => hn (by obtain ⟨y1, y2⟩ := y; subst y1; subst y2; exact hk))]; exact h.2.1 k' j' hn, h.2.2⟩
/-- a role more -/
theorem HS.role (e : HE z b bn sm t nu tu K0 K1 M S) (h : HS z bn sm size t nd nu nm tu K1 M S M' S' a x1 x2 bI R) (hr : r < nu) (h20 : mA S 20 (24 * bn + r) = 0) (hl : R.length < 6) :
    HS z bn sm size t nd nu nm tu K1 M S (wI (wI M' (tu + 1) R.length (nI r)) tu 7 (nI (R.length + 1))) (pA (pA S' 24 (6 * (24 * bn + nu) + R.length) (nI r)) 23 (24 * bn + nu) (nI (R.length + 1))) a x1 x2 bI (R ++ [r]) := by
  have hz := HS.hz e
  obtain ⟨⟨p, n⟩, ⟨c, f⟩, ⟨o, u⟩, q1, q2⟩ := h
  have el : (R ++ [r]).length = R.length + 1 := by rw [List.length_append]; rfl
  refine ⟨⟨((p.wI (by omega)).wI (by omega)).sA (by decide) (by decide) _ _ |>.sA (by decide) (by decide) _ _, ((n.wI (by omega)).wI (by omega)).pA (by decide) (by decide) (by decide) |>.pA (by decide) (by decide) (by decide)⟩, ⟨(c.wI (by omega) (by omega)).wI (by omega) (by omega), (f.pA (Or.inr ⟨rfl, by omega, by omega⟩)).pA (Or.inl ⟨Or.inl ⟨by decide, by decide⟩, rfl⟩)⟩, ⟨?_, ?_⟩, by omega, fun r' hr' => ?_⟩
  · obtain ⟨o1, o2, o3, o4, o5, o6, o7', o8', o9, o10, o11⟩ := o
    have i0 : ∀ s, s ≠ 7 → cI (wI (wI M' (tu + 1) R.length (nI r)) tu 7 (nI (R.length + 1))) tu s = cI M' tu s := fun s hs => by rw [cI_w, if_neg (fun y => hs y.2), cI_wI_ne _ _ _ (by omega)]
    refine ⟨o1, o2, by rw [i0 0 (by decide)]; exact o3, by rw [i0 1 (by decide)]; exact o4, by rw [i0 6 (by decide)]; exact o5, by rw [cI_w, if_pos ⟨rfl, rfl⟩, el], by rw [i0 8 (by decide)]; exact o7', by rw [i0 9 (by decide)]; exact o8', by rw [i0 13 (by decide)]; exact o9, fun j hj => ?_, fun s => by rw [cI_wI_ne _ _ _ (by omega), cI_wI_ne _ _ _ (by omega)]; exact o11 s⟩
    rw [cI_wI_ne _ _ _ (show tu + 1 ≠ tu by omega), cI_w]
    by_cases y : j = R.length
    · rw [if_pos ⟨rfl, y⟩, y, getD_app2]
    · rw [if_neg (fun w => y w.2), getD_app1 (by omega)]
      exact o10 j (by omega)
  · obtain ⟨u1, u2, u3, u4, u5, u6, u7, u8, u9⟩ := u
    have s0 : ∀ k, k ≠ 24 → k ≠ 23 → mA (pA (pA S' 24 (6 * (24 * bn + nu) + R.length) (nI r)) 23 (24 * bn + nu) (nI (R.length + 1))) k = mA S' k := fun k h1 h2 => by rw [mA_Ane _ _ _ h2, mA_Ane _ _ _ h1]
    refine ⟨by rw [s0 20 (by decide) (by decide)]; exact u1, by rw [s0 21 (by decide) (by decide)]; exact u2, by rw [s0 22 (by decide) (by decide)]; exact u3, by rw [mA_A, if_pos ⟨rfl, rfl⟩, el], fun k hk => ?_, by rw [s0 25 (by decide) (by decide)]; exact u6, by rw [s0 30 (by decide) (by decide)]; exact u7, by rw [s0 31 (by decide) (by decide)]; exact u8, by rw [s0 33 (by decide) (by decide)]; exact u9⟩
    rw [mA_Ane _ _ _ (show 24 ≠ 23 by decide), mA_A]
    by_cases y : k = R.length
    · rw [if_pos ⟨rfl, by omega⟩, y, getD_app2]
    · rw [if_neg (by omega), getD_app1 (by omega)]
      exact u5 k (by omega)
  · rcases List.mem_append.mp hr' with y | y
    · exact q2 r' y
    · rw [List.mem_singleton] at y; subst y; exact ⟨hr, h20⟩
/-- the class asks whether a role is there -/
theorem hr_lp (N : Nat) (hk : kd K1 tu = 8) (h7 : cI M' tu 7 = nI R.length) (h6 : R.length ≤ 6) (h2 : cR M' tu 2 = some (tu + 1)) (k2 : kd K1 (tu + 1) = 22) (l2 : le K1 (tu + 1) = 6) (hR : HL M' (tu + 1) R) (hv : ∀ v, v ∈ R → v < 2 ^ 31) (hr : r < 2 ^ 31) :
    ∀ (n k : Nat), k ≤ R.length → R.length < n + k → lC_X7_hasRole_2 N K1 (bC_X7_hasRole_20 N K1) (bC_X7_hasRole_28 N K1) n tu (nI r) (nI k) M' = some (if r ∈ R.drop k then 1 else 0, M') := by
  intro n
  induction n with
  | zero => intro k q1 q2; omega
  | succ n ih =>
    intro k q1 q2
    rw [lC_X7_hasRole_2, gd_k hk, h7]
    by_cases h : k < R.length
    · rw [if_neg (nI_ge h (by omega)), nn_s h2, gd_k k2, l2, ck_n (show k < 6 by omega) (by decide), nI_clamp (show k < 2 ^ 31 by omega), hR k h, getD_drop h]
      by_cases y : R.getD k 0 = r
      · rw [if_pos (by rw [y]), if_pos (by rw [y]; exact List.mem_cons_self ..)]
        rfl
      · rw [if_neg (fun w => y ((nI_eq (hv _ (getD_mem h)) hr).mp w)), nI_1, ih (k + 1) (by omega) (by omega)]
        have : r ∈ R.getD k 0 :: R.drop (k + 1) ↔ r ∈ R.drop (k + 1) := by rw [List.mem_cons]; exact ⟨fun w => w.elim (fun w => absurd w.symm y) id, Or.inr⟩
        by_cases w : r ∈ R.drop (k + 1)
        · rw [if_pos w, if_pos (this.mpr w)]
        · rw [if_neg w, if_neg (fun q => w (this.mp q))]
    · have ek : k = R.length := by omega
      subst ek
      rw [if_pos (nI_le (Nat.le_refl _) (by omega)), List.drop_length, if_neg (by simp)]
      rfl
theorem hr_ok (e : HE z b bn sm t nu tu K0 K1 M S) (h : HS z bn sm size t nd nu nm tu K1 M S M' S' a x1 x2 bI R) (N : Nat) (hN : 30 < N) (hr : r < 2 ^ 31) : fC_X7_hasRole N K1 tu (nI r) M' = some (if r ∈ R then 1 else 0, M') := by
  obtain ⟨-, -, ⟨⟨o1, o2, o3, o4, o5, o6, o7', o8', o9, o10, o11⟩, -⟩, q1, q2⟩ := h
  obtain ⟨w1, w2, w3⟩ := o2 2 22 6 (by decide)
  have e1 : tu + 2 - 1 = tu + 1 := by omega
  rw [e1] at w1 w2 w3
  have := hr_lp N o1 o6 q1 w1 w2 w3 o10 (fun v hv => by have := (q2 v hv).1; have := e.2.2.2.1.1; omega) hr N 0 (by omega) (by omega)
  rw [List.drop_zero] at this
  exact this
theorem ar_ok (e : HE z b bn sm t nu tu K0 K1 M S) (h : HS z bn sm size t nd nu nm tu K1 M S M' S' a x1 x2 bI R) (N : Nat) (hl : R.length < 6) : fC_X7_addRole N K1 tu (nI r) M' = some (wI (wI M' (tu + 1) R.length (nI r)) tu 7 (nI (R.length + 1))) := by
  obtain ⟨-, -, ⟨⟨o1, o2, o3, o4, o5, o6, o7', o8', o9, o10, o11⟩, -⟩, q1, q2⟩ := h
  obtain ⟨w1, w2, w3⟩ := o2 2 22 6 (by decide)
  have e1 : tu + 2 - 1 = tu + 1 := by omega
  rw [e1] at w1 w2 w3
  unfold fC_X7_addRole bC_X7_addRole_29
  rw [gd_k o1, o6, if_neg (show ¬ (6 : Int32) ≤ nI R.length from nI_ge (b := 6) hl (by decide)), nn_s w1, gd_k w2, w3, ck_n hl (by decide), nI_clamp (show R.length < 2 ^ 31 by omega), cI_wI_ne _ _ _ (show tu ≠ tu + 1 by omega), o6, nI_1]
end HEAD
