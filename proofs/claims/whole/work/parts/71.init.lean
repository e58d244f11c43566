/-! at the start -/
theorem rel_init {z : Nat} {K : Ka} {M : Cm} {S : Ms} (h : IN z K M S) : RelP z K M S 0 (z + 89) 0 0 0 := by
  obtain ⟨h1, h2, h3, h4, h5, h6, h7, h8, h9, h10, h11, h12, h13, h14⟩ := h
  have i0 : ∀ o s, (o, s) ∈ ([(1, 5), (1, 6), (8, 10), (8, 11), (19, 10), (19, 11), (30, 4), (30, 5), (30, 6), (30, 7), (35, 11), (0, 8), (0, 9), (0, 10), (0, 11), (0, 12), (89, 10), (89, 11), (89, 12), (89, 13)] : List (Nat × Nat)) → cI M (z + o) s = 0 := fun o s q => h2 (o, s) q
  have z0 : ∀ s, (0, s) ∈ ([(1, 5), (1, 6), (8, 10), (8, 11), (19, 10), (19, 11), (30, 4), (30, 5), (30, 6), (30, 7), (35, 11), (0, 8), (0, 9), (0, 10), (0, 11), (0, 12), (89, 10), (89, 11), (89, 12), (89, 13)] : List (Nat × Nat)) → cI M z s = 0 := fun s q => h2 (0, s) q
  have rr : ∀ i sl kind m, (al5 0)[i]? = some (sl, kind, m) ∧ m < 2 ^ 31 → rw1 z K M (z + 89) sl kind 0 (z + 90 + i) := fun i sl kind m q => by
    obtain ⟨a, b, c⟩ := h7 i _ q.1
    have hi : i < 10 := by
      have := (List.getElem?_eq_some_iff.mp q.1).1
      exact this
    exact ⟨c, by omega, by omega, a, by omega, by rw [b]; exact q.2⟩
  refine ⟨h1, ?_, ?_, ⟨h4, h14⟩, ?_, ?_, ?_, ?_, ?_, ?_, ?_, ?_, ?_, ?_, ?_, ?_, ⟨⟨fun d hd => by omega, fun d e hd => by omega⟩, ⟨fun d hd => by omega, fun d e hd => by omega⟩, ⟨fun d hd => by omega, fun d e hd => by omega⟩, trivial⟩, ⟨h10, h11, by omega⟩⟩
  · unfold R1
    rw [h12, h12, h12, h12, h12, h12]
    exact ⟨i0 8 11 (by decide), z0 9 (by decide), z0 10 (by decide), z0 11 (by decide), z0 12 (by decide), Or.inl rfl, i0 35 11 (by decide)⟩
  · exact ⟨0, by omega, i0 1 5 (by decide), h12 _, fun j hj => by omega⟩
  · exact ⟨0, by omega, z0 8 (by decide), h12 _, fun j hj => by omega⟩
  · exact ⟨0, by omega, i0 30 4 (by decide), h12 _, fun j hj => by omega⟩
  · exact ⟨0, 0, by omega, by omega, h12 _, i0 30 5 (by decide), h12 _, fun j hj => by omega⟩
  · exact ⟨0, 0, by omega, by omega, h12 _, i0 30 6 (by decide), h12 _, fun j hj => by omega⟩
  · exact ⟨0, by omega, i0 30 7 (by decide), h12 _, fun j hj => by omega⟩
  · refine ⟨0, by omega, i0 8 10 (by decide), h12 _, fun u e hu he => ?_, fun k hk => by omega⟩
    rw [h3 16 (by omega) (by omega), bit1 (by omega), b_0]
    exact ⟨fun q => absurd q (by decide), fun ⟨k, hk, _⟩ => by omega⟩
  · intro u hu
    unfold RE1
    rw [h3 9 (by omega) (by omega), h3 10 (by omega) (by omega), h3 12 (by omega) (by omega), h3 13 (by omega) (by omega), h3 15 (by omega) (by omega), h13 54 _ (by unfold isR; decide), h13 55 _ (by unfold isR; decide), h13 57 _ (by unfold isR; decide), h13 58 _ (by unfold isR; decide), h13 60 _ (by unfold isR; decide)]
    exact ⟨rfl, rfl, rfl, rfl, fun _ => ⟨rfl, rfl⟩, ⟨0, by omega, rfl⟩, ⟨0, by omega, rfl, rfl, fun i hi => by omega⟩, ⟨0, by omega, rfl⟩, fun _ => rfl⟩
  · intro d hd
    omega
  · exact ⟨Or.inl rfl, h12 _, h5, by omega, h6, by omega, by omega, by omega, i0 89 10 (by decide), h13 13 _ (by unfold isR; decide), i0 89 11 (by decide), h13 18 _ (by unfold isR; decide), i0 89 12 (by decide), h13 35 _ (by unfold isR; decide)⟩
  · exact ⟨_, _, _, _, rr 0 0 23 _ ⟨rfl, by decide⟩, rr 1 1 22 _ ⟨rfl, by decide⟩, rr 2 2 22 _ ⟨rfl, by decide⟩, rr 3 3 22 _ ⟨rfl, by decide⟩, fun d hd => by omega⟩
  · exact ⟨_, _, _, rr 4 4 23 _ ⟨rfl, by decide⟩, rr 5 5 26 _ ⟨rfl, by decide⟩, rr 6 6 22 _ ⟨rfl, by decide⟩, fun u hu => by omega, fun u v hu => by omega⟩
  · exact ⟨_, _, rr 7 7 23 _ ⟨rfl, by decide⟩, rr 8 8 22 _ ⟨rfl, by decide⟩, fun d hd => by omega⟩
