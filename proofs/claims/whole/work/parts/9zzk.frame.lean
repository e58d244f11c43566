/-! runs: the machine and the reference side by side -/
/-- the code, and what it names, as it stands at a run's start -/
def CDX (z b st nd nu : Nat) (K : Ka) (M0 : Cm) (S0 : Ms) (mk : List Mk) (rc cc : Nat) (g : Nat → Nat × Nat × Nat) (pi : Nat → Nat) (J : Nat → Jt) (cl : Nat → List Nat) : Prop :=
  (z + 174 ≤ st ∧ nu ≤ 24 ∧ nd ≤ 24 ∧ rc ≤ cc ∧ cc ≤ 8000 ∧ kd K st = 6 ∧ (b = 0 ∨ b = 1) ∧ mF S0 11 = nI b ∧ LY z K M0) ∧
  (cR M0 st 9 = some (st + 10) ∧ kd K (st + 10) = 23 ∧ cc ≤ le K (st + 10) ∧ le K (st + 10) < 2 ^ 31 ∧ cI M0 st 13 = nI cc) ∧
  PU K M0 S0 b st nu ∧ (∀ u, u < nu → UND1 K M0 S0 b st cl mk u) ∧ CG b (10000 * b) st M0 S0 g pi rc cc ∧
  (∀ i, i < rc → W1 g J rc i ∧ VO6 b S0 nd nu (g i) ∧ (g i).1 ≤ 24) ∧ (∀ m, m ∈ mk → m.1 < rc ∧ (m.2.2.1.1 = 99 → MC st M0 g pi J rc m)) ∧ (J rc).2.2 = 0 ∧ (rc = 0 ∨ (g (rc - 1)).1 = 0) ∧ SD z K M0 S0 b st nd
theorem SAg.ly {z : Nat} {K : Ka} {M0 M : Cm} {S0 S : Ms} (h : SAg z M0 M S0 S) (hL : LY z K M0) : LY z K M := by
  obtain ⟨l1, l2, l3, l4⟩ := hL
  refine ⟨l1, fun t ht => ?_, fun k hk => ?_, l4⟩
  · have := lyR_35 t ht
    rw [h.2.2.2.1 _ _ (by omega)]
    exact l2 t ht
  · rw [h.2.2.2.1 _ _ (by omega), h.2.2.2.1 _ _ (by omega)]
    exact l3 k hk
/-- units that are DOWN, each with its weight -/
def dn (S : Ms) (w : Nat → Nat) : Nat → Nat
  | 0 => 0
  | n + 1 => dn S w n + (if mA S 54 n = 0 then w n else 0)
theorem dn_le {S S' : Ms} (w : Nat → Nat) (h : ∀ v, mA S' 54 v = 0 → mA S 54 v = 0) : ∀ n, dn S' w n ≤ dn S w n := by
  intro n
  induction n with
  | zero => exact Nat.le_refl _
  | succ n ih =>
    rw [dn, dn]
    by_cases e : mA S' 54 n = 0
    · rw [if_pos e, if_pos (h n e)]; omega
    · rw [if_neg e]; omega
theorem dn_lt {S S' : Ms} (w : Nat → Nat) (h : ∀ v, mA S' 54 v = 0 → mA S 54 v = 0) {u : Nat} (h1 : mA S 54 u = 0) (h2 : mA S' 54 u ≠ 0) : ∀ n, u < n → dn S' w n + w u ≤ dn S w n := by
  intro n
  induction n with
  | zero => intro hu; omega
  | succ n ih =>
    intro hu
    rw [dn, dn]
    by_cases e : u = n
    · subst e
      rw [if_neg h2, if_pos h1]
      have := dn_le w h u
      omega
    · have := ih (by omega)
      by_cases e : mA S' 54 n = 0
      · rw [if_pos e, if_pos (h n e)]; omega
      · rw [if_neg e]; omega
/-- how long a run may go on -/
def gS (nu : Nat) (S : Ms) : Nat := 182 * ((mF S 68).toNatClampNeg - (mF S 67).toNatClampNeg) + 300 * dn S (fun _ => 1) nu
theorem gS_ag {nu : Nat} {S S' : Ms} (h1 : mF S' 68 = mF S 68) (h2 : mF S' 67 = mF S 67) (h3 : ∀ v, mA S' 54 v = 0 → mA S 54 v = 0) : gS nu S' ≤ gS nu S := by
  unfold gS
  rw [h1, h2]
  have := dn_le (fun _ => 1) h3 nu
  omega
/-- handlers -/
def HN (z h t0 b : Nat) (g : Nat → Nat × Nat × Nat) (pi : Nat → Nat) (M : Cm) (S : Ms) : List Nat → Prop
  | [] => True
  | x :: tl => cI M (z + 38 + 2 * h + 1) tl.length = nI (pi (g x).2.1) ∧ mA S 96 (t0 + tl.length) = nI (10000 * b + (g x).2.1) ∧ HN z h t0 b g pi M S tl
theorem HN.ag {z h t0 b : Nat} {g : Nat → Nat × Nat × Nat} {pi : Nat → Nat} {M M' : Cm} {S S' : Ms} : ∀ {L : List Nat}, (∀ j, j < L.length → cI M' (z + 38 + 2 * h + 1) j = cI M (z + 38 + 2 * h + 1) j) → (∀ j, j < L.length → mA S' 96 (t0 + j) = mA S 96 (t0 + j)) → HN z h t0 b g pi M S L → HN z h t0 b g pi M' S' L
  | [], _, _, _ => trivial
  | x :: tl, e1, e2, hh => ⟨by rw [e1 _ (by rw [List.length_cons]; omega)]; exact hh.1, by rw [e2 _ (by rw [List.length_cons]; omega)]; exact hh.2.1, HN.ag (fun j hj => e1 j (by rw [List.length_cons]; omega)) (fun j hj => e2 j (by rw [List.length_cons]; omega)) hh.2.2⟩
/-- the machine with frame h on top -/
def MBm (z st h : Nat) (clo : Int32) (M : Cm) : Prop := cR M (z + 35) 4 = some st ∧ cR M (z + 35) 5 = some (z + 38 + 2 * h) ∧ cI M (z + 35) 6 = nI (h + 1) ∧ cI M (z + 35) 13 = 1 ∧ cI M (z + 35) 14 = 0 ∧ cI M (z + 35) 15 = 0 ∧ cI M (z + 35) 16 = 0 ∧ cI M (z + 35) 9 = clo
def MBl (z lim : Nat) (M : Cm) (S : Ms) : Prop := ∃ us, us ≤ lim ∧ lim ≤ 5000 ∧ mF S 68 = nI lim ∧ mF S 67 = nI us ∧ cI M (z + 35) 10 = nI (lim - us) ∧ cI M (z + 35) 12 = nI us
def MBu (z nu h : Nat) (U : List Nat) (M : Cm) (S : Ms) : Prop := U.length = h ∧ U.Nodup ∧ (∀ u, u ∈ U → u < nu ∧ mA S 54 u = 1) ∧ ∀ i, i < h → cI M (z + 38 + 2 * (i + 1)) 1 = nI (U.getD i 0)
def MBf (z nu h fl t0 : Nat) (who : Int32) (M : Cm) : Prop := cI M (z + 38 + 2 * h) 1 = who ∧ (who = -1 ∨ ∃ w, w < nu ∧ who = nI w) ∧ cI M (z + 38 + 2 * h) 4 = nI fl ∧ fl ≤ 34 * h ∧ t0 ≤ 10 * h
def MBc (z h : Nat) (clo : Int32) (S0 : Ms) (M : Cm) (S : Ms) : Prop := (clo = 0 ∧ cI M (z + 35) 8 = mF S 92 ∧ ∀ u, u < 24 → mA S 54 u ≠ 4) ∨ (clo = 1 ∧ h = 0 ∧ mA S 54 = mA S0 54)
def MB (z b st nd nu lim : Nat) (clo : Int32) (M0 : Cm) (S0 : Ms) (nh no h fl t0 : Nat) (U : List Nat) (who : Int32) (M : Cm) (S : Ms) : Prop :=
  DD z b nd nu M0 S0 nh no M S ∧ MBm z st h clo M ∧ MBl z lim M S ∧ MBu z nu h U M S ∧ MBf z nu h fl t0 who M ∧ MBc z h clo S0 M S
/-- .. and at place c -/
def FMp (z b rc : Nat) (g : Nat → Nat × Nat × Nat) (pi : Nat → Nat) (J : Nat → Jt) (h fl t0 c : Nat) (M : Cm) (S : Ms) : Prop :=
  c < rc ∧ cI M (z + 38 + 2 * h) 2 = nI (pi c) ∧ cI M (z + 38 + 2 * h) 3 = mF S 98 ∧ cI M (z + 38 + 2 * h) 5 = nI (J c).2.1.length ∧ cI M (z + 35) 7 = nI (fl + (J c).1) ∧ mF S 95 = nI (fl + (J c).1) ∧ (∀ j, j < fl + (J c).1 → cI M (z + 37) j = mA S 94 j) ∧ mF S 99 = nI (10000 * b + c) ∧ mF S 97 = nI (t0 + (J c).2.1.length) ∧ HN z h t0 b g pi M S (J c).2.1
/-- what a frame's doing leaves to those below it -/
def PR (z h fl t0 : Nat) (M M' : Cm) (S S' : Ms) : Prop :=
  (∀ i, i < h → cI M' (z + 38 + 2 * i) = cI M (z + 38 + 2 * i) ∧ cI M' (z + 38 + 2 * i + 1) = cI M (z + 38 + 2 * i + 1)) ∧ (∀ j, j < fl → cI M' (z + 37) j = cI M (z + 37) j ∧ mA S' 94 j = mA S 94 j) ∧ (∀ j, j < t0 → mA S' 96 j = mA S 96 j) ∧
  (∀ v, mA S 54 v = 1 → mA S' 54 v = 1) ∧ (∀ v, mA S' 54 v = 0 → mA S 54 v = 0) ∧ (∀ v x, mA S 54 v ≠ 0 → x < 24 → mA S' 93 (24 * v + x) = mA S 93 (24 * v + x)) ∧ ∀ v x, NH S v x → NH S' v x
theorem PR.rf (z h fl t0 : Nat) (M : Cm) (S : Ms) : PR z h fl t0 M M S S := ⟨fun _ _ => ⟨rfl, rfl⟩, fun _ _ => ⟨rfl, rfl⟩, fun _ _ => rfl, fun _ q => q, fun _ q => q, fun _ _ _ _ => rfl, fun _ _ q => q⟩
section FRAME
variable {z b st nd nu lim nh no h fl t0 c : Nat} {clo who : Int32} {U : List Nat} {K : Ka} {M0 M M' : Cm} {S0 S S' : Ms} {rc cc : Nat} {g : Nat → Nat × Nat × Nat} {pi : Nat → Nat} {J : Nat → Jt}
theorem PR.tr {M'' : Cm} {S'' : Ms} (q : PR z h fl t0 M M' S S') (r : PR z h fl t0 M' M'' S' S'') : PR z h fl t0 M M'' S S'' :=
  ⟨fun i hi => ⟨(r.1 i hi).1.trans (q.1 i hi).1, (r.1 i hi).2.trans (q.1 i hi).2⟩, fun j hj => ⟨(r.2.1 j hj).1.trans (q.2.1 j hj).1, (r.2.1 j hj).2.trans (q.2.1 j hj).2⟩, fun j hj => (r.2.2.1 j hj).trans (q.2.2.1 j hj), fun v hv => r.2.2.2.1 v (q.2.2.2.1 v hv), fun v hv => q.2.2.2.2.1 v (r.2.2.2.2.1 v hv), fun v x hv hx => (r.2.2.2.2.2.1 v x (fun w => hv (q.2.2.2.2.1 v w)) hx).trans (q.2.2.2.2.2.1 v x hv hx), fun v x hv => r.2.2.2.2.2.2 v x (q.2.2.2.2.2.2 v x hv)⟩
theorem PR.mono {h' fl' t0' : Nat} (q : PR z h fl t0 M M' S S') (h1 : h' ≤ h) (h2 : fl' ≤ fl) (h3 : t0' ≤ t0) : PR z h' fl' t0' M M' S S' :=
  ⟨fun i hi => q.1 i (by omega), fun j hj => q.2.1 j (by omega), fun j hj => q.2.2.1 j (by omega), q.2.2.2⟩
/-- the top frame's own doings -/
def PLN (z h fl t0 : Nat) (M M' : Cm) (S S' : Ms) : Prop :=
  MCH z M M' S S' ∧ (∀ k, k ≠ 7 → cI M' (z + 35) k = cI M (z + 35) k) ∧ cR M' = cR M ∧ (cI M' (z + 38 + 2 * h) 1 = cI M (z + 38 + 2 * h) 1 ∧ cI M' (z + 38 + 2 * h) 4 = cI M (z + 38 + 2 * h) 4) ∧ (mF S' 67 = mF S 67 ∧ mF S' 68 = mF S 68 ∧ mF S' 92 = mF S 92) ∧
  (∀ i, i < h → cI M' (z + 38 + 2 * i) = cI M (z + 38 + 2 * i) ∧ cI M' (z + 38 + 2 * i + 1) = cI M (z + 38 + 2 * i + 1)) ∧ (∀ j, j < fl → cI M' (z + 37) j = cI M (z + 37) j ∧ mA S' 94 j = mA S 94 j) ∧ (∀ j, j < t0 → mA S' 96 j = mA S 96 j) ∧ mA S' 93 = mA S 93
theorem PLN.rf (z h fl t0 : Nat) (M : Cm) (S : Ms) : PLN z h fl t0 M M S S := ⟨MCH.rf z M S, fun _ _ => rfl, rfl, ⟨rfl, rfl⟩, ⟨rfl, rfl, rfl⟩, fun _ _ => ⟨rfl, rfl⟩, fun _ _ => ⟨rfl, rfl⟩, fun _ _ => rfl, rfl⟩
theorem PLN.wf {k : Nat} {v : Int32} (hk : k ≠ 1 ∧ k ≠ 4) (hh : h < 25) (q : PLN z h fl t0 M M' S S') : PLN z h fl t0 M (wI M' (z + 38 + 2 * h) k v) S S' := by
  obtain ⟨q1, q2, q3, q4, q5, q6, q7, q8, q9⟩ := q
  refine ⟨q1.wI (by omega), fun x hx => ?_, q3, ⟨?_, ?_⟩, q5, fun i hi => ⟨?_, ?_⟩, fun j hj => ?_, q8, q9⟩
  · rw [cI_wI_ne _ _ _ (by omega)]; exact q2 x hx
  · rw [cI_w, if_neg (by omega)]; exact q4.1
  · rw [cI_w, if_neg (by omega)]; exact q4.2
  · rw [cI_wI_ne _ _ _ (by omega)]; exact (q6 i hi).1
  · rw [cI_wI_ne _ _ _ (by omega)]; exact (q6 i hi).2
  · rw [cI_wI_ne _ _ _ (by omega)]; exact q7 j hj
theorem PLN.wh {k : Nat} {v : Int32} (hh : h < 25) (q : PLN z h fl t0 M M' S S') : PLN z h fl t0 M (wI M' (z + 38 + 2 * h + 1) k v) S S' := by
  obtain ⟨q1, q2, q3, q4, q5, q6, q7, q8, q9⟩ := q
  refine ⟨q1.wI (by omega), fun x hx => ?_, q3, ⟨?_, ?_⟩, q5, fun i hi => ⟨?_, ?_⟩, fun j hj => ?_, q8, q9⟩
  · rw [cI_wI_ne _ _ _ (by omega)]; exact q2 x hx
  · rw [cI_w, if_neg (by omega)]; exact q4.1
  · rw [cI_w, if_neg (by omega)]; exact q4.2
  · rw [cI_wI_ne _ _ _ (by omega)]; exact (q6 i hi).1
  · rw [cI_wI_ne _ _ _ (by omega)]; exact (q6 i hi).2
  · rw [cI_wI_ne _ _ _ (by omega)]; exact q7 j hj
theorem PLN.w7 {v : Int32} (hh : h < 25) (q : PLN z h fl t0 M M' S S') : PLN z h fl t0 M (wI M' (z + 35) 7 v) S S' := by
  obtain ⟨q1, q2, q3, q4, q5, q6, q7, q8, q9⟩ := q
  refine ⟨q1.wI (by omega), fun x hx => ?_, q3, ⟨?_, ?_⟩, q5, fun i hi => ⟨?_, ?_⟩, fun j hj => ?_, q8, q9⟩
  · rw [cI_w, if_neg (by omega)]; exact q2 x hx
  · rw [cI_w, if_neg (by omega)]; exact q4.1
  · rw [cI_w, if_neg (by omega)]; exact q4.2
  · rw [cI_wI_ne _ _ _ (by omega)]; exact (q6 i hi).1
  · rw [cI_wI_ne _ _ _ (by omega)]; exact (q6 i hi).2
  · rw [cI_wI_ne _ _ _ (by omega)]; exact q7 j hj
theorem PLN.wv {k : Nat} {v w : Int32} (hh : h < 25) (hk : fl ≤ k) (q : PLN z h fl t0 M M' S S') : PLN z h fl t0 M (wI M' (z + 37) k v) S (pA S' 94 k w) := by
  obtain ⟨q1, q2, q3, q4, q5, q6, q7, q8, q9⟩ := q
  refine ⟨(q1.wI (by omega)).pA (by omega), fun x hx => ?_, q3, ⟨?_, ?_⟩, q5, fun i hi => ⟨?_, ?_⟩, fun j hj => ⟨?_, ?_⟩, fun j hj => ?_, ?_⟩
  · rw [cI_wI_ne _ _ _ (by omega)]; exact q2 x hx
  · rw [cI_w, if_neg (by omega)]; exact q4.1
  · rw [cI_w, if_neg (by omega)]; exact q4.2
  · rw [cI_wI_ne _ _ _ (by omega)]; exact (q6 i hi).1
  · rw [cI_wI_ne _ _ _ (by omega)]; exact (q6 i hi).2
  · rw [cI_w, if_neg (by omega)]; exact (q7 j hj).1
  · rw [mA_A, if_neg (by omega)]; exact (q7 j hj).2
  · rw [mA_Ane _ _ _ (by decide)]; exact q8 j hj
  · rw [mA_Ane _ _ _ (by decide)]; exact q9
theorem PLN.pF {k : Nat} {v : Int32} (hk : k = 90 ∨ k = 91 ∨ k = 95 ∨ k = 97 ∨ k = 98 ∨ k = 99) (q : PLN z h fl t0 M M' S S') : PLN z h fl t0 M M' S (pF S' k v) := by
  obtain ⟨q1, q2, q3, q4, q5, q6, q7, q8, q9⟩ := q
  refine ⟨q1.pF (by omega), q2, q3, q4, ⟨?_, ?_, ?_⟩, q6, q7, q8, q9⟩
  · rw [mF_F, if_neg (by omega)]; exact q5.1
  · rw [mF_F, if_neg (by omega)]; exact q5.2.1
  · rw [mF_F, if_neg (by omega)]; exact q5.2.2
theorem PLN.p96 {k : Nat} {v : Int32} (hk : t0 ≤ k) (q : PLN z h fl t0 M M' S S') : PLN z h fl t0 M M' S (pA S' 96 k v) := by
  obtain ⟨q1, q2, q3, q4, q5, q6, q7, q8, q9⟩ := q
  refine ⟨q1.pA (by omega), q2, q3, q4, q5, q6, fun j hj => ⟨(q7 j hj).1, ?_⟩, fun j hj => ?_, ?_⟩
  · rw [mA_Ane _ _ _ (by decide)]; exact (q7 j hj).2
  · rw [mA_A, if_neg (by omega)]; exact q8 j hj
  · rw [mA_Ane _ _ _ (by decide)]; exact q9
theorem PLN.pr (q : PLN z h fl t0 M M' S S') : PR z h fl t0 M M' S S' := by
  obtain ⟨q1, q2, q3, q4, q5, q6, q7, q8, q9⟩ := q
  have A := q1.2.2.2.2.2.1
  refine ⟨q6, q7, q8, fun v hv => by rw [A 54 (by decide) (by decide) (by decide)]; exact hv, fun v hv => by rw [← A 54 (by decide) (by decide) (by decide)]; exact hv, fun v x _ _ => by rw [q9], fun v x hv => ?_⟩
  unfold NH at hv ⊢
  rw [A 59 (by decide) (by decide) (by decide), A 60 (by decide) (by decide) (by decide)]
  exact hv
theorem PLN.gs (q : PLN z h fl t0 M M' S S') : gS nu S' ≤ gS nu S := gS_ag q.2.2.2.2.1.2.1 q.2.2.2.2.1.1 q.pr.2.2.2.2.1
theorem MB.pln (m : MB z b st nd nu lim clo M0 S0 nh no h fl t0 U who M S) (q : PLN z h fl t0 M M' S S') : MB z b st nd nu lim clo M0 S0 nh no h fl t0 U who M' S' := by
  obtain ⟨m1, ⟨a1, a2, a3, a4, a5, a6, a7, a8⟩, ⟨us, b1, b2, b3, b4, b5, b6⟩, ⟨c1, c2, c3, c4⟩, ⟨d1, d2, d3, d4⟩, m6⟩ := m
  have hpr := q.pr
  obtain ⟨q1, q2, q3, q4, q5, q6, q7, q8, q9⟩ := q
  have A54 : mA S' 54 = mA S 54 := q1.2.2.2.2.2.1 54 (by decide) (by decide) (by decide)
  refine ⟨m1.mach q1, ⟨by rw [q3]; exact a1, by rw [q3]; exact a2, by rw [q2 _ (by decide)]; exact a3, by rw [q2 _ (by decide)]; exact a4, by rw [q2 _ (by decide)]; exact a5, by rw [q2 _ (by decide)]; exact a6, by rw [q2 _ (by decide)]; exact a7, by rw [q2 _ (by decide)]; exact a8⟩, ⟨us, b1, b2, by rw [q5.2.1]; exact b3, by rw [q5.1]; exact b4, by rw [q2 _ (by decide)]; exact b5, by rw [q2 _ (by decide)]; exact b6⟩, ⟨c1, c2, fun u hu => by rw [A54]; exact c3 u hu, fun i hi => ?_⟩, ⟨by rw [q4.1]; exact d1, d2, by rw [q4.2]; exact d3, d4⟩, ?_⟩
  · by_cases e : i + 1 = h
    · have := c4 i hi
      rw [e] at this ⊢
      rw [q4.1]; exact this
    · rw [(q6 (i + 1) (by omega)).1]; exact c4 i hi
  · rcases m6 with ⟨e1, e2, e3⟩ | e
    · exact Or.inl ⟨e1, by rw [q2 _ (by decide), q5.2.2]; exact e2, by rw [A54]; exact e3⟩
    · exact Or.inr ⟨e.1, e.2.1, by rw [A54]; exact e.2.2⟩
/-- changes of what both keep, none of the machine's -/
def DCH (z : Nat) (M M' : Cm) (S S' : Ms) : Prop := (∀ a, a = z + 35 ∨ (z + 37 ≤ a ∧ a ≤ z + 87) → cI M' a = cI M a) ∧ cR M' = cR M ∧ (∀ k, k = 67 ∨ k = 68 ∨ (90 ≤ k ∧ k ≤ 99) → mF S' k = mF S k) ∧ (∀ k, k = 54 ∨ k = 93 ∨ k = 94 ∨ k = 96 → mA S' k = mA S k) ∧ ∀ v x, NH S v x → NH S' v x
theorem DCH.rf (z : Nat) (M : Cm) (S : Ms) : DCH z M M S S := ⟨fun _ _ => rfl, rfl, fun _ _ => rfl, fun _ _ => rfl, fun _ _ q => q⟩
theorem NFR.dch (q : NFR z M M' S S') : DCH z M M' S S' := ⟨fun a ha => q.1 a (by omega) (by omega), q.2.2.1, fun k _ => q.2.2.2.1 k, fun k hk => q.2.2.2.2.1 k (by omega) (by omega), q.2.2.2.2.2⟩
theorem DCH.pr (q : DCH z M M' S S') (hh : h ≤ 25) : PR z h fl t0 M M' S S' := by
  obtain ⟨q1, q2, q3, q4, q5⟩ := q
  exact ⟨fun i hi => ⟨q1 _ (by omega), q1 _ (by omega)⟩, fun j _ => ⟨by rw [q1 _ (by omega)], by rw [q4 94 (by omega)]⟩, fun j _ => by rw [q4 96 (by omega)], fun v hv => by rw [q4 54 (by omega)]; exact hv, fun v hv => by rw [← q4 54 (by omega)]; exact hv, fun v x _ _ => by rw [q4 93 (by omega)], q5⟩
theorem DCH.gs (q : DCH z M M' S S') : gS nu S' ≤ gS nu S := gS_ag (q.2.2.1 _ (by omega)) (q.2.2.1 _ (by omega)) (fun v hv => by rw [← q.2.2.2.1 54 (by omega)]; exact hv)
theorem MB.dch {nh' no' : Nat} (m : MB z b st nd nu lim clo M0 S0 nh no h fl t0 U who M S) (q : DCH z M M' S S') (hh : h < 25) (d : DD z b nd nu M0 S0 nh' no' M' S') : MB z b st nd nu lim clo M0 S0 nh' no' h fl t0 U who M' S' := by
  obtain ⟨m1, m2, ⟨us, b1, b2, b3, b4, b5, b6⟩, ⟨c1, c2, c3, c4⟩, m5, m6⟩ := m
  obtain ⟨q1, q2, q3, q4, q5⟩ := q
  have e35 := q1 (z + 35) (by omega)
  refine ⟨d, ?_, ⟨us, b1, b2, by rw [q3 _ (by omega)]; exact b3, by rw [q3 _ (by omega)]; exact b4, by rw [e35]; exact b5, by rw [e35]; exact b6⟩, ⟨c1, c2, fun u hu => by rw [q4 54 (by omega)]; exact c3 u hu, fun i hi => by rw [q1 _ (by omega)]; exact c4 i hi⟩, ?_, ?_⟩
  · unfold MBm at m2 ⊢
    rw [q2, e35]; exact m2
  · unfold MBf at m5 ⊢
    rw [q1 _ (by omega)]; exact m5
  · unfold MBc at m6 ⊢
    rw [e35, q3 92 (by omega), q4 54 (by omega)]; exact m6
theorem FMp.dch (m : FMp z b rc g pi J h fl t0 c M S) (q : DCH z M M' S S') (hh : h < 25) : FMp z b rc g pi J h fl t0 c M' S' := by
  obtain ⟨m1, m2, m3, m4, m5, m6, m7, m8, m9, m10⟩ := m
  obtain ⟨q1, q2, q3, q4, q5⟩ := q
  refine ⟨m1, by rw [q1 _ (by omega)]; exact m2, by rw [q1 _ (by omega), q3 98 (by omega)]; exact m3, by rw [q1 _ (by omega)]; exact m4, by rw [q1 _ (by omega)]; exact m5, by rw [q3 95 (by omega)]; exact m6, by rw [q1 _ (by omega), q4 94 (by omega)]; exact m7, by rw [q3 99 (by omega)]; exact m8, by rw [q3 97 (by omega)]; exact m9, m10.ag (fun j _ => by rw [q1 _ (by omega)]) (fun j _ => by rw [q4 96 (by omega)])⟩
/-- depth is bounded: units on frames are distinct -/
theorem MBu.le (m : MBu z nu h U M S) : h ≤ nu := by
  obtain ⟨c1, c2, c3, c4⟩ := m
  rw [← c1]
  exact nd_len nu U c2 (fun v hv => (c3 v hv).1)
end FRAME
