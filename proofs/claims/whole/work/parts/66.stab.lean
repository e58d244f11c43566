/-! what a piece of the invariant reads: it stands where that is unchanged -/
def AgM (P : Nat → Prop) (M M' : Cm) : Prop := (∀ a, P a → cI M' a = cI M a) ∧ (∀ a, P a → cL M' a = cL M a) ∧ cR M' = cR M
def AgS (F A : Nat → Prop) (S S' : Ms) : Prop := (∀ k, F k → mF S' k = mF S k) ∧ (∀ k, A k → mA S' k = mA S k) ∧ ∀ k, A k → mL S' k = mL S k
section STAB
variable {z : Nat} {K : Ka} {M M' : Cm} {S S' : Ms} {b st nd nu nm : Nat} {P F A : Nat → Prop}
theorem LY.sb (hM : AgM P M M') (h : LY z K M) : LY z K M' := by
  obtain ⟨-, -, h3⟩ := hM
  unfold LY
  rw [h3]
  exact h
theorem R1.sb (hM : AgM P M M') (hS : AgS F A S S') (p : P (z + 8) ∧ P z ∧ P (z + 35)) (f : F 63 ∧ F 88 ∧ F 89 ∧ F 66 ∧ F 64 ∧ F 65) (h : R1 z M S) : R1 z M' S' := by
  unfold R1
  rw [hM.1 _ p.1, hM.1 _ p.2.1, hM.1 _ p.2.2, hS.1 _ f.1, hS.1 _ f.2.1, hS.1 _ f.2.2.1, hS.1 _ f.2.2.2.1, hS.1 _ f.2.2.2.2.1, hS.1 _ f.2.2.2.2.2]
  exact h
theorem RT.sb (hM : AgM P M M') (hS : AgS F A S S') (p : P (z + 1) ∧ P (z + 2)) (f : F 2) (a : A 1) (h : RT z M S) : RT z M' S' := by
  unfold RT
  rw [hM.1 _ p.1, hM.1 _ p.2, hS.1 _ f, hS.2.1 _ a]
  exact h
theorem RK.sb (hM : AgM P M M') (hS : AgS F A S S') (p : P (z + 6)) (a : A 10) (h : RK z M S) : RK z M' S' := by
  unfold RK
  rw [hM.2.1 _ p, hS.2.2 10 a]
  exact h
theorem RF.sb (hM : AgM P M M') (hS : AgS F A S S') (p : P z ∧ P (z + 88)) (f : F 101) (a : A 100) (h : RF z M S) : RF z M' S' := by
  unfold RF
  rw [hM.1 _ p.1, hM.1 _ p.2, hS.1 _ f, hS.2.1 _ a]
  exact h
theorem RU.sb (hM : AgM P M M') (hS : AgS F A S S') (p : P (z + 30) ∧ P (z + 31)) (f : F 75) (a : A 72 ∧ A 73 ∧ A 74) (h : RU z M S) : RU z M' S' := by
  unfold RU
  rw [hM.1 _ p.1, hM.1 _ p.2, hS.1 _ f, hS.2.1 _ a.1, hS.2.1 _ a.2.1, hS.2.1 _ a.2.2]
  exact h
theorem RH.sb (hM : AgM P M M') (hS : AgS F A S S') (p : P (z + 30) ∧ P (z + 32)) (f : F 65 ∧ F 79) (a : A 76 ∧ A 77 ∧ A 78) (h : RH z M S) : RH z M' S' := by
  unfold RH
  rw [hM.1 _ p.1, hM.1 _ p.2, hS.1 _ f.1, hS.1 _ f.2, hS.2.1 _ a.1, hS.2.1 _ a.2.1, hS.2.1 _ a.2.2]
  exact h
theorem RO.sb (hM : AgM P M M') (hS : AgS F A S S') (p : P (z + 30) ∧ P (z + 33)) (f : F 65 ∧ F 84) (a : A 80 ∧ A 81 ∧ A 82 ∧ A 83) (h : RO z M S) : RO z M' S' := by
  unfold RO
  rw [hM.1 _ p.1, hM.1 _ p.2, hS.1 _ f.1, hS.1 _ f.2, hS.2.1 _ a.1, hS.2.1 _ a.2.1, hS.2.1 _ a.2.2.1, hS.2.1 _ a.2.2.2]
  exact h
theorem RZ.sb (hM : AgM P M M') (hS : AgS F A S S') (p : P (z + 30) ∧ P (z + 34)) (f : F 87) (a : A 85 ∧ A 86) (h : RZ z M S) : RZ z M' S' := by
  unfold RZ
  rw [hM.1 _ p.1, hM.1 _ p.2, hS.1 _ f, hS.2.1 _ a.1, hS.2.1 _ a.2]
  exact h
theorem RP.sb (hM : AgM P M M') (hS : AgS F A S S') (p : P (z + 8) ∧ P (z + 16)) (f : F 71) (a : A 69 ∧ A 70) (h : RP z M S nu) : RP z M' S' nu := by
  unfold RP
  rw [hM.1 _ p.1, hM.1 _ p.2, hS.1 _ f, hS.2.1 _ a.1, hS.2.1 _ a.2]
  exact h
theorem RE.sb (hM : AgM P M M') (hS : AgS F A S S') (p : P (z + 9) ∧ P (z + 10) ∧ P (z + 12) ∧ P (z + 13) ∧ P (z + 14) ∧ P (z + 15)) (a : A 54 ∧ A 55 ∧ A 57 ∧ A 58 ∧ A 59 ∧ A 60) (h : RE z M S nu) : RE z M' S' nu := by
  unfold RE RE1
  rw [hM.1 _ p.1, hM.1 _ p.2.1, hM.1 _ p.2.2.1, hM.1 _ p.2.2.2.1, hM.1 _ p.2.2.2.2.1, hM.1 _ p.2.2.2.2.2, hS.2.1 _ a.1, hS.2.1 _ a.2.1, hS.2.1 _ a.2.2.1, hS.2.1 _ a.2.2.2.1, hS.2.1 _ a.2.2.2.2.1, hS.2.1 _ a.2.2.2.2.2]
  exact h
theorem RD.sb (hM : AgM P M M') (hS : AgS F A S S') (p : P (z + 17) ∧ P (z + 18)) (a : A 61 ∧ A 62) (h : RD z M S nd) : RD z M' S' nd := by
  unfold RD
  rw [hM.1 _ p.1, hM.1 _ p.2, hS.2.1 _ a.1, hS.2.1 _ a.2]
  exact h
theorem SA.sb (hM : AgM P M M') (hS : AgS F A S S') (p : ∀ a, z + 89 ≤ a → P a) (f : F 11) (a : A 13 ∧ A 18 ∧ A 35) (h : SA z K M S b st nd nu nm) : SA z K M' S' b st nd nu nm := by
  have hp := p st h.2.2.2.1.1
  unfold SA
  rw [hM.2.2, hM.1 _ hp, hS.1 _ f, hS.2.1 _ a.1, hS.2.1 _ a.2.1, hS.2.1 _ a.2.2]
  exact h
theorem rw1.sb (hM : AgM P M M') {sl kind m a : Nat} (h : rw1 z K M st sl kind m a) : rw1 z K M' st sl kind m a := by
  unfold rw1
  rw [hM.2.2]
  exact h
theorem SD.sb (hM : AgM P M M') (hS : AgS F A S S') (p : ∀ a, z + 89 ≤ a → P a) (a : A 15 ∧ A 16 ∧ A 17 ∧ A 14) (h : SD z K M S b st nd) : SD z K M' S' b st nd := by
  obtain ⟨a0, a1, a2, a3, q0, q1, q2, q3, q⟩ := h
  refine ⟨a0, a1, a2, a3, q0.sb hM, q1.sb hM, q2.sb hM, q3.sb hM, ?_⟩
  rw [hM.2.1 _ (p _ q0.2.1.1), hS.2.2 14 a.2.2.2, hM.1 _ (p _ q1.2.1.1), hM.1 _ (p _ q2.2.1.1), hM.1 _ (p _ q3.2.1.1), hS.2.1 _ a.1, hS.2.1 _ a.2.1, hS.2.1 _ a.2.2.1]
  exact q
theorem UN.sb (hM : AgM P M M') (hS : AgS F A S S') (p : ∀ a, z + 89 ≤ a → P a) (p2 : P (z + 11)) (a : A 20 ∧ A 21 ∧ A 22 ∧ A 23 ∧ A 25 ∧ A 27 ∧ A 29 ∧ A 30 ∧ A 31 ∧ A 56) {tu i u : Nat} (h : UN z K M S tu i u) : UN z K M' S' tu i u := by
  have hp := p tu h.1.1
  unfold UN
  rw [hM.1 _ hp, hM.1 _ p2, hS.2.1 _ a.1, hS.2.1 _ a.2.1, hS.2.1 _ a.2.2.1, hS.2.1 _ a.2.2.2.1, hS.2.1 _ a.2.2.2.2.1, hS.2.1 _ a.2.2.2.2.2.1, hS.2.1 _ a.2.2.2.2.2.2.1, hS.2.1 _ a.2.2.2.2.2.2.2.1, hS.2.1 _ a.2.2.2.2.2.2.2.2.1, hS.2.1 _ a.2.2.2.2.2.2.2.2.2]
  exact h
theorem SU.sb (hM : AgM P M M') (hS : AgS F A S S') (p : ∀ a, z + 89 ≤ a → P a) (p2 : P (z + 11)) (a : A 20 ∧ A 21 ∧ A 22 ∧ A 23 ∧ A 25 ∧ A 27 ∧ A 29 ∧ A 30 ∧ A 31 ∧ A 56) (a2 : A 34 ∧ A 19) (h : SU z K M S b st nu) : SU z K M' S' b st nu := by
  obtain ⟨a4, a5, a6, q4, q5, q6, q, qq⟩ := h
  refine ⟨a4, a5, a6, q4.sb hM, q5.sb hM, q6.sb hM, fun u hu => ?_, ?_⟩
  · obtain ⟨e, tu, h1, h2⟩ := q u hu
    refine ⟨?_, tu, ?_, h2.sb hM hS p p2 a⟩
    · rw [hM.2.1 _ (p _ q4.2.1.1), hS.2.2 19 a2.2]; exact e
    · rw [hM.2.2]; exact h1
  · rw [hM.1 _ (p _ q6.2.1.1), hS.2.1 _ a2.1]
    exact qq
theorem SM.sb (hM : AgM P M M') (hS : AgS F A S S') (p : ∀ a, z + 89 ≤ a → P a) (a : A 36) (h : SM z K M S b st nm) : SM z K M' S' b st nm := by
  obtain ⟨a7, a8, q7, q8, q⟩ := h
  refine ⟨a7, a8, q7.sb hM, q8.sb hM, ?_⟩
  rw [hM.2.1 _ (p _ q7.2.1.1), hS.2.2 36 a]
  exact q
theorem NM1.sb (hS : AgS F A S S') {row base n : Nat} (hr : A row) (h : NM1 S row base n) : NM1 S' row base n := by
  unfold NM1
  rw [hS.2.2 row hr]
  exact h
theorem SC.sb (hM : AgM P M M') (hS : AgS F A S S') (p : ∀ a, z + 89 ≤ a → P a) (a : ∀ k, 13 ≤ k → k ≤ 42 → A k) (h : SC z K M S b st nd nu nm) : SC z K M' S' b st nd nu nm := ⟨h.1.sb hS (a _ (by decide) (by decide)), h.2.1.sb hS (a _ (by decide) (by decide)), h.2.2.1.sb hS (a _ (by decide) (by decide)), trivial⟩
end STAB
/-- what calls that don't run leave alone: the stations' cells; the stations' rows, how units stand, what came up -/
def FRQ (z : Nat) (M M' : Cm) (S S' : Ms) : Prop := AgM (fun a => z + 89 ≤ a ∧ a ≠ z + 173) M M' ∧ AgS (fun k => k = 64 ∨ k = 65 ∨ k = 75 ∨ k = 79 ∨ k = 84 ∨ k = 87) (fun k => (13 ≤ k ∧ k ≤ 42) ∨ (54 ≤ k ∧ k ≤ 60) ∨ k = 72 ∨ k = 73) S S'
theorem FRQ.of {z : Nat} {M M' : Cm} {S S' : Ms} {P F A : Nat → Prop} (hM : AgM P M M') (hS : AgS F A S S') (p : ∀ a, z + 89 ≤ a → a ≠ z + 173 → P a) (f : F 64 ∧ F 65 ∧ F 75 ∧ F 79 ∧ F 84 ∧ F 87) (q : ∀ k, (13 ≤ k ∧ k ≤ 42) ∨ (54 ≤ k ∧ k ≤ 60) ∨ k = 72 ∨ k = 73 → A k) : FRQ z M M' S S' :=
  ⟨⟨fun a ha => hM.1 a (p a ha.1 ha.2), fun a ha => hM.2.1 a (p a ha.1 ha.2), hM.2.2⟩, fun k hk => hS.1 k (by rcases hk with rfl | rfl | rfl | rfl | rfl | rfl; exact f.1; exact f.2.1; exact f.2.2.1; exact f.2.2.2.1; exact f.2.2.2.2.1; exact f.2.2.2.2.2), fun k hk => hS.2.1 k (q k hk), fun k hk => hS.2.2 k (q k hk)⟩
theorem FRQ.rf (z : Nat) (M : Cm) (S : Ms) : FRQ z M M S S := ⟨⟨fun _ _ => rfl, fun _ _ => rfl, rfl⟩, fun _ _ => rfl, fun _ _ => rfl, fun _ _ => rfl⟩
theorem FRQ.tr {z : Nat} {M M' M'' : Cm} {S S' S'' : Ms} (h : FRQ z M M' S S') (q : FRQ z M' M'' S' S'') : FRQ z M M'' S S'' := ⟨⟨fun a ha => (q.1.1 a ha).trans (h.1.1 a ha), fun a ha => (q.1.2.1 a ha).trans (h.1.2.1 a ha), q.1.2.2.trans h.1.2.2⟩, fun k hk => (q.2.1 k hk).trans (h.2.1 k hk), fun k hk => (q.2.2.1 k hk).trans (h.2.2.1 k hk), fun k hk => (q.2.2.2 k hk).trans (h.2.2.2 k hk)⟩
theorem FRQ.t0 (z : Nat) (M : Cm) (S : Ms) (v : Int32) : FRQ z M M S (pF S 0 v) := ⟨⟨fun _ _ => rfl, fun _ _ => rfl, rfl⟩, fun k hk => by rw [mF_F, if_neg (by omega)], fun _ _ => rfl, fun _ _ => rfl⟩
