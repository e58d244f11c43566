/-! the end of a unit by both -/
/-- what a unit's body and closing may change -/
def FU (z b sm tu i : Nat) (K0 : Ka) (M M' : Cm) (S S' : Ms) : Prop :=
  (∀ q, q ≠ z + 7 → q ≠ sm → q ≠ sm + 7 → q ≠ tu → q ≠ tu + 3 → q ≠ tu + 4 → cI M' q = cI M q) ∧ (∀ s, s ≠ 8 → s ≠ 9 → s ≠ 13 → cI M' tu s = cI M tu s) ∧ (∀ q, q ≠ sm + 10 → q ≠ tu + 2 → cL M' q = cL M q) ∧ cR M' = cR M ∧ (∀ s, s ≠ 2 → s ≠ 3 → cI M' (z + 7) s = cI M (z + 7) s) ∧ (∀ s, s ≠ 13 → cI M' sm s = cI M sm s) ∧
  (∀ k, k ≠ 7 → k ≠ 38 → k ≠ 48 → k ≠ 50 → k ≠ 51 → k ≠ 52 → mF S' k = mF S k) ∧ (∀ k, k ≠ 33 → k ≠ 34 → ¬ (25 ≤ k ∧ k ≤ 31) → ¬ (39 ≤ k ∧ k ≤ 47) → k ≠ 53 → mA S' k = mA S k) ∧ (∀ q, q ≠ i → mA S' 33 q = mA S 33 q) ∧ (∀ k, k ≠ 26 → mL S' k = mL S k) ∧ AgA z K0 M M' ∧ AgO b S S'
section UEND
variable {N z b bn sm size t nd nu nm iu u tu i : Nat} {ex ex' : Nat → Nat → Prop} {K0 K : Ka} {M M' M'' : Cm} {S S' S'' : Ms} {mk mk' : List Mk} {j : Jt} {rc cc a v rv dp n f : Nat}
theorem FI.fu (h : FI z b sm tu K0 M M' S S') : FU z b sm tu i K0 M M' S S' :=
  ⟨h.1, fun s a1 a2 _ => h.2.1 s a1 a2, h.2.2.1, h.2.2.2.1, h.2.2.2.2.1, h.2.2.2.2.2.1, h.2.2.2.2.2.2.1, fun k _ a1 a2 a3 a4 => h.2.2.2.2.2.2.2.1 k a1 a2 a3 a4, fun q _ => by rw [h.2.2.2.2.2.2.2.1 33 (by decide) (by decide) (by decide) (by decide)], h.2.2.2.2.2.2.2.2.1, h.2.2.2.2.2.2.2.2.2.1, h.2.2.2.2.2.2.2.2.2.2⟩
theorem FU.tr (h : FU z b sm tu i K0 M M' S S') (q : FU z b sm tu i K0 M' M'' S' S'') : FU z b sm tu i K0 M M'' S S'' :=
  ⟨fun x a1 a2 a3 a4 a5 a6 => (q.1 x a1 a2 a3 a4 a5 a6).trans (h.1 x a1 a2 a3 a4 a5 a6), fun s a1 a2 a3 => (q.2.1 s a1 a2 a3).trans (h.2.1 s a1 a2 a3), fun x a1 a2 => (q.2.2.1 x a1 a2).trans (h.2.2.1 x a1 a2), q.2.2.2.1.trans h.2.2.2.1, fun s a1 a2 => (q.2.2.2.2.1 s a1 a2).trans (h.2.2.2.2.1 s a1 a2), fun s a1 => (q.2.2.2.2.2.1 s a1).trans (h.2.2.2.2.2.1 s a1), fun k a1 a2 a3 a4 a5 a6 => (q.2.2.2.2.2.2.1 k a1 a2 a3 a4 a5 a6).trans (h.2.2.2.2.2.2.1 k a1 a2 a3 a4 a5 a6), fun k a0 a1 a2 a3 a4 => (q.2.2.2.2.2.2.2.1 k a0 a1 a2 a3 a4).trans (h.2.2.2.2.2.2.2.1 k a0 a1 a2 a3 a4), fun x a1 => (q.2.2.2.2.2.2.2.2.1 x a1).trans (h.2.2.2.2.2.2.2.2.1 x a1), fun k a1 => (q.2.2.2.2.2.2.2.2.2.1 k a1).trans (h.2.2.2.2.2.2.2.2.2.1 k a1), h.2.2.2.2.2.2.2.2.2.2.1.tr q.2.2.2.2.2.2.2.2.2.2.1, h.2.2.2.2.2.2.2.2.2.2.2.tr q.2.2.2.2.2.2.2.2.2.2.2⟩
theorem FB.fu {α : Type} {c : Option (α ⊕ (Ka × Cm))} {o : Option Ms} (h : FB z b bn K0 M' S' n c o) (hf : FU z b sm tu i K0 M M' S S') : FB z b bn K0 M S n c o :=
  h.pre hf.2.2.2.2.2.2.2.2.2.2.1 hf.2.2.2.2.2.2.2.2.2.2.2 (fun k k1 k2 => hf.2.2.2.2.2.2.2.1 k (by omega) (by omega) (by omega) (by omega) (by omega))
theorem FR.fu (hf : FR z b sm K0 M M' S S') (h1 : tu ≠ z + 7) (h2 : sm + 11 ≤ tu) : FU z b sm tu i K0 M M' S S' := (hf.fi h1 h2).fu
theorem LN.ago (hb : b = 0 ∨ b = 1) (hbn : bn = 1 - b) (hu : u < 24) (hl : LN S S' (24 * bn + u)) : AgO b S S' := by
  obtain ⟨l1, l2, l3, l4, l5⟩ := hl
  refine ⟨fun k _ => by rw [l1], fun k q hk => ?_, fun k q _ => by rw [l2]⟩
  by_cases y : k = 34
  · subst y
    rcases l5 q with y | ⟨-, w, w1, w2, -⟩
    · exact y
    · exact absurd hk (ob_n hb hbn (w := 576) rfl (by decide) (by omega) (by omega))
  · rw [l3 k y]
/-- how a unit ends -/
def UEo (z b bn sm size t nd nu nm u tu : Nat) (K0 K : Ka) (M : Cm) (S : Ms) (mk : List Mk) (a v : Nat) (c : Option ((Ka × Cm) ⊕ (Ka × Cm))) (o : Option Ms) : Prop :=
  (∃ M' S' mk' rc' cc' a', c = some (.inl (K, M')) ∧ o = some S' ∧ a < a' ∧ FU z b sm tu (24 * bn + u) K0 M M' S S' ∧ PS z b bn sm size t nd nu nm (u + 1) (fun _ _ => False) K0 K M' S' mk' (0, [], 0) rc' cc' a' v 0 0 ∧ emk rc' cc' ∈ mk' ∧ (∀ m, m ∈ mk → m ∈ mk') ∧ (∀ m, m ∈ mk' → m ∈ mk ∨ m.1 < rc' ∧ (m.2.2.1.1 = 99 ∨ m.2.2.1.1 < 28)) ∧ ((cI M' tu 13 = cI M tu 13 ∧ mA S' 33 (24 * bn + u) = mA S 33 (24 * bn + u)) ∨ ∃ r c, cI M' tu 13 = nI c ∧ mA S' 33 (24 * bn + u) = nI (10000 * bn + r) ∧ pmk r c ∈ mk')) ∨ FB z b bn K0 M S 9100 c o
/-- the last sign and the leans -/
theorem ue_tail (hP : PS z b bn sm size t nd nu nm (u + 1) ex K0 K M S mk (0, [], 0) rc cc a v 0 0) (hm : emk rc cc ∈ mk) (hu : u < nu) (ht : cR M (sm + 6) u = some tu) (hex : ∀ u' w, u' < 24 → w < 24 → (ex u' w ↔ u' = u ∧ LNx S (24 * bn + u) w)) (hN : 4010 < N) :
    UEo z b bn sm size t nd nu nm u tu K0 K M S mk a (v + 2) (bT_X3_readUnit_224 N (z + 7) K M) (bM_toldUnit_359 N (nI (24 * bn + u)) S) := by
  have ht4 := hP.t4
  have hz := hP.hz
  have hroom := hP.room
  have n24 : nu ≤ 24 := hP.2.1.1.2.2.2.2.2.1
  have b2 : bn < 2 := by have := hP.1.2.1; omega
  obtain ⟨p1, p2, fl, p3⟩ := id hP.2.1.2.2.1
  obtain ⟨⟨tu', hA, hB, -⟩, -⟩ := p3 u hu
  have et : tu' = tu := by have := hA.1; rw [ht] at this; cases this; rfl
  subst et
  have htu := hA.2.1
  have tn : tu' ≠ z + 7 := by omega
  have hd := hA.hd
  have u24 : u < 24 := by omega
  unfold bT_X3_readUnit_224 bT_X3_readUnit_230
  rw [gd_k hP.k7]
  rcases l_sign hP.2.2.1 N (c := 125) (by decide) (by decide) with ⟨-, g1, g2, g3⟩ | ⟨f, f1, f2, f3⟩
  · left
    have g2' : fT_X3_take N (z + 7) 125 K M = some (.inl (K, mv z M (a + 1))) := g2
    have g3' : fM_takeSign N 125 S = some (pF S 7 (nI (a + 1))) := g3
    obtain ⟨S2, q1, q2⟩ := l359 N (by omega) (i := 24 * bn + u) (u := u) (by omega) u24 (S := pF S 7 (nI (a + 1))) hd
    have h1 := (hP.tk (a' := a + 1) (by omega) (by omega)).less (v' := v + 2) (by omega)
    have le := h1.2.2.2.2.2.1.fin (S' := S2) hu q2 hex
    have h2 := h1.obj (M' := mv z M (a + 1)) (S' := S2) hu ht (by omega) (fun _ _ => rfl) (fun _ _ => rfl) rfl rfl q2.1 (fun k _ h34 => q2.2.2.1 k h34) q2.2.1 le
    refine ⟨mv z M (a + 1), S2, mk, rc, cc, a + 1, by rw [g2', tb_l], ?_, by omega, ?_, h2, hm, fun _ h => h, fun _ h => Or.inl h, Or.inl ⟨by rw [mv_I _ tn], by rw [q2.2.2.1 33 (by decide)]; rfl⟩⟩
    · unfold bM_toldUnit_359
      rw [g3', bs]
      exact q1
    · refine ((FR.mv (a + 1) (nI (a + 1)) hz).fu tn (by omega)).tr ⟨fun _ _ _ _ _ _ _ => rfl, fun _ _ _ _ => rfl, fun _ _ _ => rfl, rfl, fun _ _ _ => rfl, fun _ _ => rfl, fun k _ _ _ _ _ _ => by rw [q2.1], fun k _ h34 _ _ _ => q2.2.2.1 k h34, fun q _ => by rw [q2.2.2.1 33 (by decide)], fun k _ => by rw [q2.2.1], AgA.rf _ _ _, q2.ago hP.1.1 hP.1.2.1 u24⟩
  · right
    have f2' : fT_X3_take N (z + 7) 125 K M = some (.inr (K, wI M (z + 7) 5 (nI f))) := f2
    have f3' : fM_takeSign N 125 S = some (pF S 8 (nI f)) := f3
    have d := hP.dds f1
    obtain ⟨S2, q1, q2⟩ := l359 N (by omega) (i := 24 * bn + u) (u := u) (by omega) u24 (S := pF S 8 (nI f)) hd
    refine hP.fb f1 (by rw [f2', tb_r]) (S' := S2) ?_ ((d.ln hP.1.1 hP.1.2.1 u24 q2).le (by omega))
    unfold bM_toldUnit_359
    rw [f3', bs]
    exact q1
end UEND
