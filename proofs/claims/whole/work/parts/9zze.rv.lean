/-! what runs need more: code, what came up, needs; and how the other calls keep it -/
/-- what came up: units told; editions rise; an UP unit's own edition is there -/
def UPI (nu : Nat) (S : Ms) : Prop := ∃ n, mF S 75 = nI n ∧ n ≤ 744 ∧ (∀ j, j < n → ∃ u e c, u < nu ∧ e ≤ c ∧ c ≤ 30 ∧ mA S 72 j = nI u ∧ mA S 73 j = nI e ∧ mA S 55 u = nI c ∧ (e = c → mA S 54 u = 2 ∨ mA S 54 u = 4)) ∧ (∀ i j, i < j → j < n → mA S 72 i = mA S 72 j → ∃ e f, e < f ∧ f ≤ 30 ∧ mA S 73 i = nI e ∧ mA S 73 j = nI f) ∧ ∀ u, u < nu → mA S 54 u = 2 → ∃ j, j < n ∧ mA S 72 j = nI u ∧ mA S 73 j = mA S 55 u
/-- needs: units told, none twice -/
def NDI (nu : Nat) (S : Ms) : Prop := ∀ u, u < nu → ∃ n, mA S 60 u = nI n ∧ n ≤ 23 ∧ (∀ i, i < n → ∃ v, v < nu ∧ v ≠ u ∧ mA S 59 (24 * u + i) = nI v) ∧ ∀ i j, i < j → j < n → mA S 59 (24 * u + i) ≠ mA S 59 (24 * u + j)
/-- closed units only where all is shut -/
def NCL (S : Ms) : Prop := mF S 64 = 0 → mF S 87 = 0 ∧ ∀ u, u < 24 → mA S 54 u ≠ 4
def RV (z b st nd nu nm : Nat) (K : Ka) (M : Cm) (S : Ms) : Prop := (CGE st b nd nu nm K M S ∧ (z + 174 ≤ st ∨ (nd = 0 ∧ nu = 0 ∧ nm = 0))) ∧ UPI nu S ∧ NDI nu S ∧ NCL S
section RVS
variable {z b st nd nu nm : Nat} {K K' : Ka} {M M' : Cm} {S S' : Ms}
theorem UPI.ag (h75 : mF S' 75 = mF S 75) (hA : ∀ k, k = 54 ∨ k = 55 ∨ k = 72 ∨ k = 73 → mA S' k = mA S k) (h : UPI nu S) : UPI nu S' := by
  unfold UPI at h ⊢
  rw [h75, hA 54 (by omega), hA 55 (by omega), hA 72 (by omega), hA 73 (by omega)]
  exact h
theorem NDI.ag (hA : ∀ k, k = 59 ∨ k = 60 → mA S' k = mA S k) (h : NDI nu S) : NDI nu S' := by
  unfold NDI at h ⊢
  rw [hA 59 (by omega), hA 60 (by omega)]
  exact h
theorem NCL.ag (h64 : mF S' 64 = mF S 64) (h87 : mF S' 87 = mF S 87) (hA : mA S' 54 = mA S 54) (h : NCL S) : NCL S' := by
  unfold NCL at h ⊢
  rw [h64, h87, hA]
  exact h
theorem NCL.nil (h0 : mF S 87 = 0) (h : ∀ u, u < 24 → mA S 54 u = 0) : NCL S := fun _ => ⟨h0, fun u hu => by rw [h u hu]; decide⟩
theorem UPI.nil (h75 : mF S 75 = 0) (h : ∀ u, u < 24 → mA S 54 u = 0) (hn : nu ≤ 24) : UPI nu S := ⟨0, h75, by omega, fun j hj => by omega, fun i j _ hj => by omega, fun u hu q => by rw [h u (by omega)] at q; exact absurd q (by decide)⟩
theorem NDI.nil (h : ∀ u, u < 24 → mA S 60 u = 0) (hn : nu ≤ 24) : NDI nu S := fun u hu => ⟨0, h u (by omega), by omega, fun i hi => by omega, fun i j _ hj => by omega⟩
theorem cge_fr (r : RelP z K M S b st nd nu nm) (hK : KE K K') (hI : ∀ a, z + 89 ≤ a → a ≠ z + 173 → cI M' a = cI M a) (hL : ∀ a, z + 89 ≤ a → a ≠ z + 173 → cL M' a = cL M a) (hR : cR M' = cR M) (hA : ∀ k, 13 ≤ k → k ≤ 42 → mA S' k = mA S k) (h26 : mL S' 26 = mL S 26) (h : CGE st b nd nu nm K M S ∧ (z + 174 ≤ st ∨ (nd = 0 ∧ nu = 0 ∧ nm = 0))) : CGE st b nd nu nm K' M' S' ∧ (z + 174 ≤ st ∨ (nd = 0 ∧ nu = 0 ∧ nm = 0)) := by
  obtain ⟨g1, g2, g3, g4, g5, g6, g7, g8, -⟩ := r.2.2.2.2.2.2.2.2.2.2.2.2.1
  obtain ⟨h1, h2⟩ := h
  refine ⟨?_, h2⟩
  rcases h2 with h2 | h2
  · exact h1.pw g7 g8 ⟨hK, fun a a1 _ _ => hI a (by omega) (by omega), fun a a1 _ => hL a (by omega) (by omega), fun a _ _ => by rw [hR]⟩ ⟨fun k j k1 k2 _ _ => by rw [hA k k1 k2], fun j _ => by rw [h26]⟩
  · exact Or.inl h2
theorem RV.frq (r : RelP z K M S b st nd nu nm) (f : FRQ z M M' S S') (h : RV z b st nd nu nm K M S) : RV z b st nd nu nm K M' S' :=
  ⟨cge_fr r (KE.rf K) (fun a a1 a2 => f.1.1 a ⟨a1, a2⟩) (fun a a1 a2 => f.1.2.1 a ⟨a1, a2⟩) f.1.2.2 (fun k k1 k2 => f.2.2.1 k (Or.inl ⟨k1, k2⟩)) (f.2.2.2 26 (Or.inl (by decide))) h.1, h.2.1.ag (f.2.1 75 (by omega)) (fun k hk => f.2.2.1 k (by omega)), h.2.2.1.ag (fun k hk => f.2.2.1 k (by omega)), h.2.2.2.ag (f.2.1 64 (by omega)) (f.2.1 87 (by omega)) (f.2.2.1 54 (by omega))⟩
theorem RV.t0 (r : RelP z K M S b st nd nu nm) (v : Int32) (h : RV z b st nd nu nm K M S) : RV z b st nd nu nm K M (pF S 0 v) := h.frq r (FRQ.t0 z M S v)
theorem RV.outk (r : RelP z K M S b st nd nu nm) {o : Ka × Cm × Ms} (f : OUTK z K M S o) (h : RV z b st nd nu nm K M S) : RV z b st nd nu nm o.1 o.2.1 o.2.2 := by
  obtain ⟨K2, M2, S2⟩ := o
  dsimp only [OUTK] at f ⊢
  rcases f with ⟨rfl, ⟨v, rfl⟩, w, rfl⟩ | ⟨rfl, rfl, w, rfl⟩
  · refine h.frq r ⟨⟨fun a _ => rfl, fun a ha => ?_, rfl⟩, fun k hk => by rw [mF_F, if_neg (by omega)], fun _ _ => rfl, fun _ _ => rfl⟩
    funext j
    rw [cL_w, if_neg (fun q => ha.2 q.1)]
  · exact ⟨cge_fr r (KE.kX K) (fun _ _ _ => rfl) (fun _ _ _ => rfl) rfl (fun _ _ _ => rfl) rfl h.1, h.2.1.ag (by rw [mF_F, if_neg (by decide)]) (fun _ _ => rfl), h.2.2.1.ag (fun _ _ => rfl), h.2.2.2.ag (by rw [mF_F, if_neg (by decide)]) (by rw [mF_F, if_neg (by decide)]) rfl⟩
theorem RV.hlf (r : RelP z K M S b st nd nu nm) (f : HLF z 0 M M' S S') (h : RV z b st nd nu nm K M S) : RV z b st nd nu nm K M' S' := by
  obtain ⟨h1, ⟨n, u1, u2, u3, u4, u5⟩, h3, h4⟩ := h
  obtain ⟨f1, f2, f3⟩ := f
  have e72 := f2.2.1 72 (by omega)
  have e73 := f2.2.1 73 (by omega)
  refine ⟨cge_fr r (KE.rf K) (fun a a1 _ => f1.1 a a1) (fun a a1 _ => f1.2.1 a a1) f1.2.2 (fun k k1 k2 => f2.2.1 k (Or.inl ⟨k1, k2⟩)) (f2.2.2 26 (Or.inl (by decide))) h1, ⟨n, by rw [f2.1 75 (by omega)]; exact u1, u2, fun j hj => ?_, by rw [e72, e73]; exact u4, fun u hu q => ?_⟩, fun u hu => ?_, fun q => ⟨?_, fun u hu => ?_⟩⟩
  · obtain ⟨u, e, c, a1, a2, a3, a4, a5, a6, a7⟩ := u3 j hj
    rw [e72, e73]
    rcases f3 u with ⟨w1, w2, w3⟩ | ⟨-, e', w1, w2, w3, w4, w5⟩
    · exact ⟨u, e, c, a1, a2, a3, a4, a5, by rw [w2]; exact a6, by rw [w1]; exact a7⟩
    · have ec : e' = c := (nI_eq (by omega) (by omega)).mp (w2.symm.trans a6)
      exact ⟨u, e, c + 1, a1, by omega, by omega, a4, a5, by rw [w3, ec], fun q => by omega⟩
  · rcases f3 u with ⟨w1, w2, w3⟩ | ⟨-, e', w1, w2, w3, w4, w5⟩
    · rw [e72, e73, w2]
      exact u5 u hu (by rw [← w1]; exact q)
    · rw [w4] at q; exact absurd q (by decide)
  · rcases f3 u with ⟨w1, w2, w3⟩ | ⟨-, e', w1, w2, w3, w4, w5⟩
    · rw [w3, f2.2.1 59 (by omega)]
      exact h3 u hu
    · exact ⟨0, w5, by omega, fun i hi => by omega, fun i j _ hj => by omega⟩
  · rw [f2.1 87 (by omega)]
    exact (h4 (by rw [← f2.1 64 (by omega)]; exact q)).1
  · rcases f3 u with ⟨w1, w2, w3⟩ | ⟨-, e', w1, w2, w3, w4, w5⟩
    · rw [w1]
      exact (h4 (by rw [← f2.1 64 (by omega)]; exact q)).2 u hu
    · rw [w4]; decide
/-- .. and station -/
theorem RV.new {K : Ka} (hz : z + 174 ≤ kz K) (h : NST z b K K' M' S S') : ∃ nd nu nm, RelP z K' M' S' (1 - b) (kz K) nd nu nm ∧ RV z (1 - b) (kz K) nd nu nm K' M' S' := by
  obtain ⟨nd, nu, nm, h1, h2, h3, h4, h5, h5b, h6⟩ := h
  have hn : nu ≤ 24 := h1.2.2.2.2.2.2.2.2.2.2.2.2.1.2.2.2.2.2.2.1
  exact ⟨nd, nu, nm, h1, ⟨h2, Or.inl hz⟩, UPI.nil h3 (fun u hu => (h6 u hu).1) hn, NDI.nil (fun u hu => (h6 u hu).2.2) hn, NCL.nil h5b (fun u hu => (h6 u hu).1)⟩
theorem RV.ost (h : OST z b st nd nu nm K' M' S S') (hv : RV z b st nd nu nm K M S) : RV z b st nd nu nm K' M' S' := by
  obtain ⟨h1, h2, h3, h4⟩ := h
  exact ⟨⟨h2, hv.1.2⟩, hv.2.1.ag (h3 75 (by omega)) (fun k hk => h4 k (by omega)), hv.2.2.1.ag (fun k hk => h4 k (by omega)), hv.2.2.2.ag (h3 64 (by omega)) (h3 87 (by omega)) (h4 54 (by omega))⟩
end RVS
/-- at the start -/
theorem rv_init {z : Nat} {K : Ka} {M : Cm} {S : Ms} (h : IN z K M S) : RV z 0 (z + 89) 0 0 0 K M S := by
  obtain ⟨-, -, -, -, -, -, -, -, -, -, -, h12, h13, -⟩ := h
  have hA := h13
  exact ⟨⟨Or.inl ⟨rfl, rfl, rfl⟩, Or.inr ⟨rfl, rfl, rfl⟩⟩, ⟨0, h12 75, by omega, fun j hj => by omega, fun i j _ hj => by omega, fun u hu => by omega⟩, fun u hu => by omega, NCL.nil (h12 87) (fun u _ => h13 54 u (by unfold isR; decide))⟩
