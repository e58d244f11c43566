/-! while a text is read, what stands of the old station is left alone -/
def KE (K K' : Ka) : Prop := kz K ≤ kz K' ∧ ∀ a, a < kz K → kd K' a = kd K a ∧ le K' a = le K a
theorem KE.rf (K : Ka) : KE K K := ⟨Nat.le_refl _, fun _ _ => ⟨rfl, rfl⟩⟩
theorem KE.tr {K K' K'' : Ka} (h : KE K K') (h2 : KE K' K'') : KE K K'' := ⟨Nat.le_trans h.1 h2.1, fun a ha => ⟨(h2.2 a (Nat.lt_of_lt_of_le ha h.1)).1.trans (h.2 a ha).1, (h2.2 a (Nat.lt_of_lt_of_le ha h.1)).2.trans (h.2 a ha).2⟩⟩
theorem KE.new (K : Ka) (kind len sl : Nat) : KE K (kNew K kind len sl) := ⟨by rw [kz_n]; omega, fun a ha => ⟨kd_newo _ _ _ _ (Nat.ne_of_lt ha), le_newo _ _ _ _ (Nat.ne_of_lt ha)⟩⟩
theorem KE.kX (K : Ka) : KE K (kX K) := ⟨Nat.le_succ _, fun _ _ => ⟨rfl, rfl⟩⟩
/-- how wide a bank of the reference's rows is -/
def bw (k : Nat) : Nat := if k = 13 ∨ k = 18 ∨ k = 35 then 1 else if k = 24 then 144 else if 26 ≤ k ∧ k ≤ 29 then 192 else if k = 34 then 576 else if k = 36 ∨ k = 37 then 20 else if 39 ≤ k ∧ k ≤ 41 then 10000 else if 14 ≤ k ∧ k ≤ 33 then 24 else 0
def OB (b k j : Nat) : Prop := (bw k = 0 ∨ bw k * b ≤ j ∧ j < bw k * b + bw k) ∧ ¬ (43 ≤ k ∧ k ≤ 47) ∧ k ≠ 53
def OF (k : Nat) : Prop := k ≠ 7 ∧ k ≠ 8 ∧ k ≠ 12 ∧ k ≠ 38 ∧ k ≠ 42 ∧ ¬ (48 ≤ k ∧ k ≤ 52)
def AgO (b : Nat) (S S' : Ms) : Prop := (∀ k, OF k → mF S' k = mF S k) ∧ (∀ k j, OB b k j → mA S' k j = mA S k j) ∧ ∀ k j, OB b k j → mL S' k j = mL S k j
def AgA (z : Nat) (K : Ka) (M M' : Cm) : Prop := (∀ a, a < kz K → a ≠ z + 7 → cI M' a = cI M a ∧ cL M' a = cL M a) ∧ ∀ a sl, a < kz K → ¬ (a = z + 7 ∧ sl = 1) → cR M' a sl = cR M a sl
theorem AgO.rf (b : Nat) (S : Ms) : AgO b S S := ⟨fun _ _ => rfl, fun _ _ _ => rfl, fun _ _ _ => rfl⟩
theorem AgO.tr {b : Nat} {S S' S'' : Ms} (h : AgO b S S') (h2 : AgO b S' S'') : AgO b S S'' := ⟨fun k hk => (h2.1 k hk).trans (h.1 k hk), fun k j hk => (h2.2.1 k j hk).trans (h.2.1 k j hk), fun k j hk => (h2.2.2 k j hk).trans (h.2.2 k j hk)⟩
theorem AgA.rf (z : Nat) (K : Ka) (M : Cm) : AgA z K M M := ⟨fun _ _ _ => ⟨rfl, rfl⟩, fun _ _ _ _ => rfl⟩
theorem AgA.tr {z : Nat} {K : Ka} {M M' M'' : Cm} (h : AgA z K M M') (h2 : AgA z K M' M'') : AgA z K M M'' := ⟨fun a h1 h3 => ⟨(h2.1 a h1 h3).1.trans (h.1 a h1 h3).1, (h2.1 a h1 h3).2.trans (h.1 a h1 h3).2⟩, fun a sl h1 h3 => (h2.2 a sl h1 h3).trans (h.2 a sl h1 h3)⟩
section OLD
variable {z : Nat} {K K' : Ka} {M M' : Cm} {S S' : Ms} {b st nd nu nm : Nat}
theorem rw1.old (hK : KE K K') (hM : AgA z K M M') (hs : z + 89 ≤ st ∧ st < kz K) {sl kind m a : Nat} (h : rw1 z K M st sl kind m a) : rw1 z K' M' st sl kind m a := by
  obtain ⟨h1, h2, h3, h4, h5, h6⟩ := h
  have e := hK.2 a h2.2
  refine ⟨by rw [hM.2 st sl hs.2 (by omega)]; exact h1, ⟨h2.1, Nat.lt_of_lt_of_le h2.2 hK.1⟩, h3, by rw [e.1]; exact h4, by rw [e.2]; exact h5, by rw [e.2]; exact h6⟩
theorem UN.old (hK : KE K K') (hM : AgA z K M M') (hS : AgO b S S') (hz : z + 174 ≤ kz K) {tu u : Nat} (hu : u < 24) (h : UN z K M S tu (24 * b + u) u) : UN z K' M' S' tu (24 * b + u) u := by
  obtain ⟨h1, h2, h3, h4, h5, h6, h7, h8, ni, ns, h9, h10, h11, h12, h13, h14, h15, h16, h17, h18⟩ := h
  have o24 : ∀ k, bw k = 24 → ¬ (43 ≤ k ∧ k ≤ 47) → k ≠ 53 → mA S' k (24 * b + u) = mA S k (24 * b + u) := fun k q1 q2 q3 => hS.2.1 k _ ⟨Or.inr (by rw [q1]; omega), q2, q3⟩
  have o192 : ∀ k s, s < 8 → bw k = 192 → ¬ (43 ≤ k ∧ k ≤ 47) → k ≠ 53 → mA S' k (8 * (24 * b + u) + s) = mA S k (8 * (24 * b + u) + s) := fun k s q0 q1 q2 q3 => hS.2.1 k _ ⟨Or.inr (by rw [q1]; omega), q2, q3⟩
  have c := (hM.1 tu h1.2 (by omega)).1
  have c11 := (hM.1 (z + 11) (by omega) (by omega)).1
  refine ⟨⟨h1.1, Nat.lt_of_lt_of_le h1.2 hK.1⟩, by rw [(hK.2 tu h1.2).1]; exact h2, ?_, ?_, ?_, ?_, ?_, ?_, ni, ns, h9, h10, ?_, ?_, ?_, ?_, ?_, fun r hr => ?_, fun s hs => ?_, fun s hs hz => ?_⟩
  · rw [c, o24 20 rfl (by decide) (by decide)]; exact h3
  · rw [o24 20 rfl (by decide) (by decide)]; exact h4
  · rw [c, o24 21 rfl (by decide) (by decide)]; exact h5
  · rw [o24 21 rfl (by decide) (by decide)]; exact h6
  · rw [c, o24 22 rfl (by decide) (by decide)]; exact h7
  · rw [c, o24 23 rfl (by decide) (by decide)]; exact h8
  · rw [c]; exact h11
  · rw [o24 25 rfl (by decide) (by decide)]; exact h12
  · rw [c]; exact h13
  · rw [o24 31 rfl (by decide) (by decide)]; exact h14
  · rw [o24 30 rfl (by decide) (by decide)]; exact h15
  · obtain ⟨s, w1, w2, w3, w4⟩ := h16 r hr
    refine ⟨s, w1, ?_, ?_, fun s' hs' => ?_⟩
    · rw [o192 27 s (by omega) rfl (by decide) (by decide)]; exact w2
    · rw [o192 29 s (by omega) rfl (by decide) (by decide)]; exact w3
    · rw [o192 27 s' (by omega) rfl (by decide) (by decide), o192 29 s' (by omega) rfl (by decide) (by decide)]; exact w4 s' hs'
  · rw [o192 27 s (by omega) rfl (by decide) (by decide)]; exact h17 s hs
  · rw [o192 27 s (by omega) rfl (by decide) (by decide)] at hz
    obtain ⟨r, w1, w2, w3⟩ := h18 s hs hz
    refine ⟨r, w1, ?_, ?_⟩
    · rw [o192 29 s (by omega) rfl (by decide) (by decide)]; exact w2
    · rw [c11, hS.2.1 56 _ ⟨Or.inl rfl, by decide, by decide⟩]; exact w3
theorem NM1.old (hS : AgO b S S') {row w n : Nat} (hw : bw row = w) (hn : n ≤ w) (h1 : ¬ (43 ≤ row ∧ row ≤ 47)) (h2 : row ≠ 53) (h : NM1 S row (w * b) n) : NM1 S' row (w * b) n := by
  have e : ∀ d, d < n → mL S' row (w * b + d) = mL S row (w * b + d) := fun d hd => hS.2.2 row _ ⟨Or.inr (by rw [hw]; omega), h1, h2⟩
  exact ⟨fun d hd r hr => by rw [e d hd]; exact h.1 d hd r hr, fun d d' hd hd' => by rw [e d hd, e d' hd']; exact h.2 d d' hd hd'⟩
theorem lyR_lo : ∀ t ∈ lyR, t.1 < 88 ∧ ¬ (t.1 = 7 ∧ t.2.1 = 1) := by decide
theorem LY.old (hK : KE K K') (hM : AgA z K M M') (hz : z + 174 ≤ kz K) (h : LY z K M) : LY z K' M' := by
  obtain ⟨h1, h2, h3, h4, h5⟩ := h
  refine ⟨fun i c hc => ?_, fun t ht => ?_, fun k hk => ?_, ?_, ?_⟩
  · have hi : i < 38 := (List.getElem?_eq_some_iff.mp hc).1
    have e := hK.2 (z + i) (by omega)
    rw [e.1, e.2]
    exact h1 i c hc
  · obtain ⟨q1, q2⟩ := lyR_lo t ht
    rw [hM.2 _ _ (by omega) (fun q => q2 ⟨by omega, q.2⟩)]
    exact h2 t ht
  · obtain ⟨q1, q2, q3, q4, q5⟩ := h3 k hk
    have e1 := hK.2 (z + 38 + 2 * k) (by omega)
    have e2 := hK.2 (z + 38 + 2 * k + 1) (by omega)
    rw [hM.2 _ _ (by omega) (by omega), hM.2 _ _ (by omega) (by omega), e1.1, e2.1, e2.2]
    exact ⟨q1, q2, q3, q4, q5⟩
  · rw [(hK.2 (z + 88) (by omega)).1]; exact h4
  · rw [(hK.2 (z + 88) (by omega)).2]; exact h5
theorem RelP.old (hK : KE K K') (hM : AgA z K M M') (hS : AgO b S S') (h : RelP z K M S b st nd nu nm) : RelP z K' M' S' b st nd nu nm := by
  obtain ⟨h1, h2, h3, h4, h5, h6, h7, h8, h9, h10, h11, h12, h13, h14, h15, h16, h17, h18⟩ := h
  have hz := h18.2.2
  have am : AgM (fun a => a < kz K ∧ a ≠ z + 7) M ((M'.1, M'.2.1, M.2.2) : Cm) := ⟨fun a ha => (hM.1 a ha.1 ha.2).1, fun a ha => (hM.1 a ha.1 ha.2).2, rfl⟩
  have ob0 : ∀ k, (bw k = 0 ∧ ¬ (43 ≤ k ∧ k ≤ 47) ∧ k ≠ 53) → ∀ j, OB b k j := fun k q j => ⟨Or.inl q.1, q.2⟩
  have as : AgS OF (fun k => bw k = 0 ∧ ¬ (43 ≤ k ∧ k ≤ 47) ∧ k ≠ 53) S S' := ⟨hS.1, fun k hk => funext fun j => hS.2.1 k j (ob0 k hk j), fun k hk => funext fun j => hS.2.2 k j (ob0 k hk j)⟩
  obtain ⟨g1, g2, g3, g4, g5, g6, g7, g8, g9, g10, g11, g12, g13, g14⟩ := id h13
  have hb1 : ∀ k, bw k = 1 → ¬ (43 ≤ k ∧ k ≤ 47) → k ≠ 53 → mA S' k b = mA S k b := fun k q1 q2 q3 => hS.2.1 k _ ⟨Or.inr (by rw [q1]; omega), q2, q3⟩
  have o24 : ∀ k d, d < 24 → bw k = 24 → ¬ (43 ≤ k ∧ k ≤ 47) → k ≠ 53 → mA S' k (24 * b + d) = mA S k (24 * b + d) ∧ mL S' k (24 * b + d) = mL S k (24 * b + d) := fun k d q0 q1 q2 q3 => ⟨hS.2.1 k _ ⟨Or.inr (by rw [q1]; omega), q2, q3⟩, hS.2.2 k _ ⟨Or.inr (by rw [q1]; omega), q2, q3⟩⟩
  have cst := (hM.1 st g4.2 (by omega)).1
  have pz : ∀ i, i < 174 → i ≠ 7 → z + i < kz K ∧ z + i ≠ z + 7 := fun i q1 q2 => ⟨by omega, by omega⟩
  have k2 : R1 z ((M'.1, M'.2.1, M.2.2) : Cm) S' := h2.sb am as ⟨pz 8 (by decide) (by decide), ⟨by omega, by omega⟩, pz 35 (by decide) (by decide)⟩ (by unfold OF; decide)
  have k3 : RT z ((M'.1, M'.2.1, M.2.2) : Cm) S' := h3.sb am as ⟨pz 1 (by decide) (by decide), pz 2 (by decide) (by decide)⟩ (by unfold OF; decide) (by decide)
  have k4 : RK z ((M'.1, M'.2.1, M.2.2) : Cm) S' := h4.sb am as (pz 6 (by decide) (by decide)) (by decide)
  have k5 : RF z ((M'.1, M'.2.1, M.2.2) : Cm) S' := h5.sb am as ⟨⟨by omega, by omega⟩, pz 88 (by decide) (by decide)⟩ (by unfold OF; decide) (by decide)
  have k6 : RU z ((M'.1, M'.2.1, M.2.2) : Cm) S' := h6.sb am as ⟨pz 30 (by decide) (by decide), pz 31 (by decide) (by decide)⟩ (by unfold OF; decide) (by decide)
  have k7 : RH z ((M'.1, M'.2.1, M.2.2) : Cm) S' := h7.sb am as ⟨pz 30 (by decide) (by decide), pz 32 (by decide) (by decide)⟩ (by unfold OF; decide) (by decide)
  have k8 : RO z ((M'.1, M'.2.1, M.2.2) : Cm) S' := h8.sb am as ⟨pz 30 (by decide) (by decide), pz 33 (by decide) (by decide)⟩ (by unfold OF; decide) (by decide)
  have k9 : RZ z ((M'.1, M'.2.1, M.2.2) : Cm) S' := h9.sb am as ⟨pz 30 (by decide) (by decide), pz 34 (by decide) (by decide)⟩ (by unfold OF; decide) (by decide)
  have k10 : RP z ((M'.1, M'.2.1, M.2.2) : Cm) S' nu := h10.sb am as ⟨pz 8 (by decide) (by decide), pz 16 (by decide) (by decide)⟩ (by unfold OF; decide) (by decide)
  have k11 : RE z ((M'.1, M'.2.1, M.2.2) : Cm) S' nu := h11.sb am as ⟨pz 9 (by decide) (by decide), pz 10 (by decide) (by decide), pz 12 (by decide) (by decide), pz 13 (by decide) (by decide), pz 14 (by decide) (by decide), pz 15 (by decide) (by decide)⟩ (by decide)
  have k12 : RD z ((M'.1, M'.2.1, M.2.2) : Cm) S' nd := h12.sb am as ⟨pz 17 (by decide) (by decide), pz 18 (by decide) (by decide)⟩ (by decide)
  refine ⟨h1.old hK hM hz, k2, k3, k4, k5, k6, k7, k8, k9, k10, k11, k12, ?_, ?_, ?_, ?_, ?_, ?_⟩
  · refine ⟨g1, ?_, ?_, ⟨g4.1, Nat.lt_of_lt_of_le g4.2 hK.1⟩, ?_, g6, g7, g8, ?_, ?_, ?_, ?_, ?_, ?_⟩
    · rw [hS.1 11 (by unfold OF; decide)]; exact g2
    · rw [hM.2 z 7 (by omega) (by omega)]; exact g3
    · rw [(hK.2 st g4.2).1]; exact g5
    · rw [cst]; exact g9
    · rw [hb1 13 rfl (by decide) (by decide)]; exact g10
    · rw [cst]; exact g11
    · rw [hb1 18 rfl (by decide) (by decide)]; exact g12
    · rw [cst]; exact g13
    · rw [hb1 35 rfl (by decide) (by decide)]; exact g14
  · obtain ⟨a0, a1, a2, a3, q0, q1, q2, q3, q⟩ := h14
    refine ⟨a0, a1, a2, a3, q0.old hK hM g4, q1.old hK hM g4, q2.old hK hM g4, q3.old hK hM g4, fun d hd => ?_⟩
    rw [(hM.1 a0 q0.2.1.2 (by have := q0.2.1.1; omega)).2, (hM.1 a1 q1.2.1.2 (by have := q1.2.1.1; omega)).1, (hM.1 a2 q2.2.1.2 (by have := q2.2.1.1; omega)).1, (hM.1 a3 q3.2.1.2 (by have := q3.2.1.1; omega)).1, (o24 14 d (by omega) rfl (by decide) (by decide)).2, (o24 15 d (by omega) rfl (by decide) (by decide)).1, (o24 16 d (by omega) rfl (by decide) (by decide)).1, (o24 17 d (by omega) rfl (by decide) (by decide)).1]
    exact q d hd
  · obtain ⟨a4, a5, a6, q4, q5, q6, q, qq⟩ := h15
    refine ⟨a4, a5, a6, q4.old hK hM g4, q5.old hK hM g4, q6.old hK hM g4, fun u hu => ?_, fun u v hu hv => ?_⟩
    · obtain ⟨e, tu, w1, w2⟩ := q u hu
      refine ⟨?_, tu, ?_, w2.old hK hM hS hz (by omega)⟩
      · rw [(hM.1 a4 q4.2.1.2 (by have := q4.2.1.1; omega)).2, (o24 19 u (by omega) rfl (by decide) (by decide)).2]; exact e
      · rw [hM.2 a5 u q5.2.1.2 (by have := q5.2.1.1; omega)]; exact w1
    · rw [(hM.1 a6 q6.2.1.2 (by have := q6.2.1.1; omega)).1, hS.2.1 34 (24 * (24 * b + u) + v) ⟨Or.inr (by rw [show bw 34 = 576 from rfl]; omega), by decide, by decide⟩]
      exact qq u v hu hv
  · obtain ⟨a7, a8, q7, q8, q⟩ := h16
    refine ⟨a7, a8, q7.old hK hM g4, q8.old hK hM g4, fun d hd => ?_⟩
    rw [(hM.1 a7 q7.2.1.2 (by have := q7.2.1.1; omega)).2, hS.2.2 36 (20 * b + d) ⟨Or.inr (by rw [show bw 36 = 20 from rfl]; omega), by decide, by decide⟩]
    exact q d hd
  · exact ⟨h17.1.old hS rfl g6 (by decide) (by decide), h17.2.1.old hS rfl g7 (by decide) (by decide), h17.2.2.1.old hS rfl g8 (by decide) (by decide), trivial⟩
  · have e := hK.2 (z + 173) (by omega)
    exact ⟨by rw [e.1]; exact h18.1, by rw [e.2]; exact h18.2.1, Nat.le_trans hz hK.1⟩
end OLD
