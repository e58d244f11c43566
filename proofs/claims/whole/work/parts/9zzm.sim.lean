/-! runs: what one instruction may do -/
def STK (z fl n : Nat) (M : Cm) (S : Ms) : Prop := cI M (z + 35) 7 = nI (fl + n) ∧ mF S 95 = nI (fl + n) ∧ ∀ j, j < fl + n → cI M (z + 37) j = mA S 94 j
def CTL (z b h t0 : Nat) (g : Nat → Nat × Nat × Nat) (pi : Nat → Nat) (q c : Nat) (L : List Nat) (M : Cm) (S : Ms) : Prop := cI M (z + 38 + 2 * h) 2 = nI q ∧ mF S 99 = nI (10000 * b + c) ∧ cI M (z + 38 + 2 * h) 3 = mF S 98 ∧ cI M (z + 38 + 2 * h) 5 = nI L.length ∧ mF S 97 = nI (t0 + L.length) ∧ HN z h t0 b g pi M S L
/-- what is left where a fault was raised -/
def FMc (z b h fl t0 : Nat) (g : Nat → Nat × Nat × Nat) (pi : Nat → Nat) (L : List Nat) (M : Cm) (S : Ms) : Prop := cI M (z + 38 + 2 * h) 5 = nI L.length ∧ mF S 97 = nI (t0 + L.length) ∧ HN z h t0 b g pi M S L ∧ (∀ j, j < fl → cI M (z + 37) j = mA S 94 j) ∧ mF S 90 ≠ 0
def MBX (z b st nd nu lim B0 : Nat) (clo : Int32) (M0 : Cm) (S0 : Ms) (t h fl t0 : Nat) (U : List Nat) (who : Int32) (M : Cm) (S : Ms) : Prop :=
  ∃ nh no, nh ≤ B0 + t ∧ no ≤ B0 + t ∧ MB z b st nd nu lim clo M0 S0 nh no h fl t0 U who M S
/-- closing runs leave the states, others close nothing -/
def C4 (clo : Int32) (S0 S : Ms) : Prop := (clo = 1 → mA S 54 = mA S0 54) ∧ (clo = 0 → ∀ u, u < 24 → mA S 54 u ≠ 4)
/-- out of steps: the class has failed all units of its frames, the reference those above U -/
def STP (z b nd nu B0 : Nat) (clo : Int32) (M0 : Cm) (S0 : Ms) (U : List Nat) (Mf : Cm) (S : Ms) : Prop :=
  ∃ nh no M2, nh ≤ B0 + 1000000 ∧ no ≤ B0 + 1000000 ∧ DD z b nd nu M0 S0 nh no M2 S ∧ (U.Nodup ∧ ∀ u, u ∈ U → u < nu ∧ mA S 54 u = 1) ∧
  ((∀ j, cI Mf (z + 9) j = if j ∈ U then 3 else cI M2 (z + 9) j) ∧ (∀ j, cI Mf (z + 12) j = if j ∈ U then 22 else cI M2 (z + 12) j) ∧ (∀ j, cI Mf (z + 13) j = if j ∈ U then 0 else cI M2 (z + 13) j)) ∧
  ((∀ a, a ≠ z + 9 → a ≠ z + 12 → a ≠ z + 13 → a ≠ z + 35 → ¬ (z + 37 ≤ a ∧ a ≤ z + 87) → cI Mf a = cI M2 a) ∧ cI Mf (z + 35) 11 = cI M2 (z + 35) 11 ∧ cL Mf = cL M2 ∧ ∀ a j, a ≠ z + 35 ∨ j ≤ 3 → cR Mf a j = cR M2 a j) ∧
  (cI Mf (z + 35) 13 = 0 ∧ cI Mf (z + 35) 14 = 1 ∧ cI Mf (z + 35) 15 = 0 ∧ cI Mf (z + 35) 16 = 0 ∧ cI Mf (z + 35) 12 = mF S 67) ∧ C4 clo S0 S
def ST1 (z b st nd nu lim B0 N : Nat) (K : Ka) (clo : Int32) (M0 : Cm) (S0 : Ms) (rc : Nat) (g : Nat → Nat × Nat × Nat) (pi : Nat → Nat) (J : Nat → Jt) (t h fl t0 : Nat) (U : List Nat) (who : Int32) (c : Nat) (M : Cm) (S : Ms) (e : Int32) (S' : Ms) : Prop :=
  (e = 0 ∧ ∃ t' M' c', RN N K z st t M = RN N K z st t' M' ∧ MBX z b st nd nu lim B0 clo M0 S0 t' h fl t0 U who M' S' ∧ FMp z b rc g pi J h fl t0 c' M' S' ∧ PR z h fl t0 M M' S S' ∧ t' + gS nu S' + 2 * (91 - (J c').2.2) ≤ t + gS nu S + 2 * (91 - (J c).2.2) ∧ t < t') ∨
  (e = 1 ∧ ∃ t' j M', RN N K z st t M = (RSE N K z j (mF S' 90) (mF S' 91) M').bind (RN N K z st t') ∧ MBX z b st nd nu lim B0 clo M0 S0 t' h fl t0 U who M' S' ∧ FMc z b h fl t0 g pi (J c).2.1 M' S' ∧ j + h ≤ 24 ∧ PR z h fl t0 M M' S S' ∧ t' + gS nu S' ≤ t + gS nu S + 1 ∧ t < t' ∧ 2 ≤ (g c).1 ∧ (g c).1 ≠ 13) ∨
  (e = 2 ∧ ∃ Mf, RN N K z st t M = some Mf ∧ STP z b nd nu B0 clo M0 S0 U Mf S')
section SIM
variable {z b st nd nu lim nh no h fl t0 c B0 N t : Nat} {clo who : Int32} {U : List Nat} {K : Ka} {M0 M M' M'' : Cm} {S0 S S' S'' : Ms} {mk : List Mk} {rc cc : Nat} {g : Nat → Nat × Nat × Nat} {pi : Nat → Nat} {J : Nat → Jt} {cl : Nat → List Nat}
theorem PLN.tr (q : PLN z h fl t0 M M' S S') (r : PLN z h fl t0 M' M'' S' S'') : PLN z h fl t0 M M'' S S'' := by
  obtain ⟨q1, q2, q3, q4, q5, q6, q7, q8, q9⟩ := q
  obtain ⟨r1, r2, r3, r4, r5, r6, r7, r8, r9⟩ := r
  exact ⟨q1.tr r1, fun k hk => (r2 k hk).trans (q2 k hk), r3.trans q3, ⟨r4.1.trans q4.1, r4.2.trans q4.2⟩, ⟨r5.1.trans q5.1, r5.2.1.trans q5.2.1, r5.2.2.trans q5.2.2⟩, fun i hi => ⟨(r6 i hi).1.trans (q6 i hi).1, (r6 i hi).2.trans (q6 i hi).2⟩, fun j hj => ⟨(r7 j hj).1.trans (q7 j hj).1, (r7 j hj).2.trans (q7 j hj).2⟩, fun j hj => (r8 j hj).trans (q8 j hj), r9.trans q9⟩
theorem fmp_mk (hc : c < rc) (h1 : CTL z b h t0 g pi (pi c) c (J c).2.1 M S) (h2 : STK z fl (J c).1 M S) : FMp z b rc g pi J h fl t0 c M S :=
  ⟨hc, h1.1, h1.2.2.1, h1.2.2.2.1, h2.1, h2.2.1, h2.2.2, h1.2.1, h1.2.2.2.2.1, h1.2.2.2.2.2⟩
theorem FMp.ctl (f : FMp z b rc g pi J h fl t0 c M S) : CTL z b h t0 g pi (pi c) c (J c).2.1 M S := ⟨f.2.1, f.2.2.2.2.2.2.2.1, f.2.2.1, f.2.2.2.1, f.2.2.2.2.2.2.2.2.1, f.2.2.2.2.2.2.2.2.2⟩
theorem FMp.stk (f : FMp z b rc g pi J h fl t0 c M S) : STK z fl (J c).1 M S := ⟨f.2.2.2.2.1, f.2.2.2.2.2.1, f.2.2.2.2.2.2.1⟩
theorem fmc_mk {q p n : Nat} {L : List Nat} (h1 : CTL z b h t0 g pi q p L M S) (h2 : STK z fl n M S) (h3 : mF S 90 ≠ 0) : FMc z b h fl t0 g pi L M S := ⟨h1.2.2.2.1, h1.2.2.2.2.1, h1.2.2.2.2.2, fun j hj => h2.2.2 j (by omega), h3⟩
theorem CTL.pFe {q p k : Nat} {v : Int32} {L : List Nat} (hk : k ≠ 97 ∧ k ≠ 98 ∧ k ≠ 99) (f : CTL z b h t0 g pi q p L M S) : CTL z b h t0 g pi q p L M (pF S k v) := by
  obtain ⟨f1, f2, f3, f4, f5, f6⟩ := f
  exact ⟨f1, by rw [mF_F, if_neg (by omega)]; exact f2, by rw [mF_F, if_neg (by omega)]; exact f3, f4, by rw [mF_F, if_neg (by omega)]; exact f5, f6.ag (fun _ _ => by rfl) (fun _ _ => by rfl)⟩
theorem CTL.w7 {q p : Nat} {v : Int32} {L : List Nat} (hh : h < 25) (f : CTL z b h t0 g pi q p L M S) : CTL z b h t0 g pi q p L (wI M (z + 35) 7 v) S := by
  obtain ⟨f1, f2, f3, f4, f5, f6⟩ := f
  exact ⟨by rw [cI_wI_ne _ _ _ (by omega)]; exact f1, f2, by rw [cI_wI_ne _ _ _ (by omega)]; exact f3, by rw [cI_wI_ne _ _ _ (by omega)]; exact f4, f5, f6.ag (fun _ _ => by rw [cI_wI_ne _ _ _ (by omega)]) (fun _ _ => by rfl)⟩
theorem CTL.wv {q p k : Nat} {v w : Int32} {L : List Nat} (hh : h < 25) (f : CTL z b h t0 g pi q p L M S) : CTL z b h t0 g pi q p L (wI M (z + 37) k v) (pA S 94 k w) := by
  obtain ⟨f1, f2, f3, f4, f5, f6⟩ := f
  exact ⟨by rw [cI_wI_ne _ _ _ (by omega)]; exact f1, f2, by rw [cI_wI_ne _ _ _ (by omega)]; exact f3, by rw [cI_wI_ne _ _ _ (by omega)]; exact f4, f5, f6.ag (fun _ _ => by rw [cI_wI_ne _ _ _ (by omega)]) (fun _ _ => by rw [mA_Ane _ _ _ (by decide)])⟩
theorem CTL.nx {v : Int32} {q p q' p' : Nat} {L : List Nat} (f : CTL z b h t0 g pi q p L M S) (hp : nI (10000 * b + p') = v) : CTL z b h t0 g pi q' p' L (wI M (z + 38 + 2 * h) 2 (nI q')) (pF S 99 v) := by
  obtain ⟨f1, f2, f3, f4, f5, f6⟩ := f
  exact ⟨by rw [cI_w, if_pos ⟨rfl, rfl⟩], by rw [mF_F, if_pos rfl, hp], by rw [cI_w, if_neg (by omega), mF_F, if_neg (by decide)]; exact f3, by rw [cI_w, if_neg (by omega)]; exact f4, by rw [mF_F, if_neg (by decide)]; exact f5, f6.ag (fun _ _ => by rw [cI_wI_ne _ _ _ (by omega)]) (fun _ _ => by rfl)⟩
theorem STK.pFe {n k : Nat} {v : Int32} (hk : k ≠ 95) (f : STK z fl n M S) : STK z fl n M (pF S k v) := ⟨f.1, by rw [mF_F, if_neg (by omega)]; exact f.2.1, f.2.2⟩
theorem STK.wf {n k : Nat} {v : Int32} (hh : h < 25) (f : STK z fl n M S) : STK z fl n (wI M (z + 38 + 2 * h) k v) S := ⟨by rw [cI_wI_ne _ _ _ (by omega)]; exact f.1, f.2.1, fun j hj => by rw [cI_wI_ne _ _ _ (by omega)]; exact f.2.2 j hj⟩
theorem STK.wh {n k : Nat} {v : Int32} (hh : h < 25) (f : STK z fl n M S) : STK z fl n (wI M (z + 38 + 2 * h + 1) k v) S := ⟨by rw [cI_wI_ne _ _ _ (by omega)]; exact f.1, f.2.1, fun j hj => by rw [cI_wI_ne _ _ _ (by omega)]; exact f.2.2 j hj⟩
theorem STK.p96 {n k : Nat} {v : Int32} (f : STK z fl n M S) : STK z fl n M (pA S 96 k v) := ⟨f.1, f.2.1, fun j hj => by rw [mA_Ane _ _ _ (by decide)]; exact f.2.2 j hj⟩
/-- a number put on both stacks -/
theorem push_ok (hL : LY z K M) (N : Nat) {n q p : Nat} {L : List Nat} (hh : h < 25) (hs : fl + n < 850) (v : Int32) (k : STK z fl n M S) (f : CTL z b h t0 g pi q p L M S) :
    ∃ M' S', fC_X2_push N K (z + 35) v M = some M' ∧ fM_push N v S = some S' ∧ PLN z h fl t0 M M' S S' ∧ STK z fl (n + 1) M' S' ∧ CTL z b h t0 g pi q p L M' S' := by
  obtain ⟨k1, k2, k3⟩ := k
  refine ⟨_, _, c_push hL N k1 hs v, m_push N k2 (by omega) v, (((PLN.rf z h fl t0 M S).wv hh (by omega)).w7 hh).pF (by omega), ⟨by rw [cI_w, if_pos ⟨rfl, rfl⟩]; rfl, by rw [mF_F, if_pos rfl]; rfl, fun j hj => ?_⟩, ((f.wv hh).w7 hh).pFe (by decide)⟩
  rw [cI_wI_ne _ _ _ (by omega), cI_w, mA_F, mA_A]
  by_cases e : j = fl + n
  · rw [if_pos ⟨rfl, e⟩, if_pos ⟨rfl, e⟩]
  · rw [if_neg (fun w => e w.2), if_neg (fun w => e w.2)]
    exact k3 j (by omega)
theorem pop_ok (hL : LY z K M) (N : Nat) {n q p : Nat} {L : List Nat} (hh : h < 25) (hs : fl + n < 850) (k : STK z fl (n + 1) M S) (f : CTL z b h t0 g pi q p L M S) :
    ∃ v M' S', fC_X2_pop N K (z + 35) M = some (v, M') ∧ fM_pop N S = some (v, S') ∧ PLN z h fl t0 M M' S S' ∧ STK z fl n M' S' ∧ CTL z b h t0 g pi q p L M' S' := by
  obtain ⟨k1, k2, k3⟩ := k
  have e := m_pop (S := S) N (sz := fl + n) k2 (by omega)
  rw [← k3 (fl + n) (by omega)] at e
  refine ⟨_, _, _, c_pop hL N (sz := fl + n) k1 hs, e, ((PLN.rf z h fl t0 M S).w7 hh).pF (by omega), ⟨by rw [cI_w, if_pos ⟨rfl, rfl⟩], by rw [mF_F, if_pos rfl], fun j hj => ?_⟩, (f.w7 hh).pFe (by decide)⟩
  rw [cI_wI_ne _ _ _ (by omega)]
  exact k3 j (by omega)
theorem MBX.mb (m : MBX z b st nd nu lim B0 clo M0 S0 t h fl t0 U who M S) {t' : Nat} (ht : t ≤ t') : MBX z b st nd nu lim B0 clo M0 S0 t' h fl t0 U who M S := by
  obtain ⟨nh, no, h1, h2, m⟩ := m
  exact ⟨nh, no, by omega, by omega, m⟩
theorem MBX.pln (m : MBX z b st nd nu lim B0 clo M0 S0 t h fl t0 U who M S) (q : PLN z h fl t0 M M' S S') : MBX z b st nd nu lim B0 clo M0 S0 t h fl t0 U who M' S' := by
  obtain ⟨nh, no, h1, h2, m⟩ := m
  exact ⟨nh, no, h1, h2, m.pln q⟩
theorem MB.ly (X : CDX z b st nd nu K M0 S0 mk rc cc g pi J cl) (m : MB z b st nd nu lim clo M0 S0 nh no h fl t0 U who M S) : LY z K M := m.1.1.ly X.1.2.2.2.2.2.2.2.2
theorem MBX.ly (X : CDX z b st nd nu K M0 S0 mk rc cc g pi J cl) (m : MBX z b st nd nu lim B0 clo M0 S0 t h fl t0 U who M S) : LY z K M := by
  obtain ⟨nh, no, h1, h2, m⟩ := m
  exact m.ly X
theorem MBX.hh (X : CDX z b st nd nu K M0 S0 mk rc cc g pi J cl) (m : MBX z b st nd nu lim B0 clo M0 S0 t h fl t0 U who M S) : h ≤ nu ∧ h ≤ 24 := by
  obtain ⟨nh, no, h1, h2, m⟩ := m
  have := m.2.2.2.1.le
  have := X.1.2.1
  omega
/-- the class takes its next word -/
theorem rn_at (X : CDX z b st nd nu K M0 S0 mk rc cc g pi J cl) (hN : 1000000 < N) (m : MBX z b st nd nu lim B0 clo M0 S0 t h fl t0 U who M S) {q w f : Nat} {s : Int32} (h2 : cI M (z + 38 + 2 * h) 2 = nI q) (hq : q < cc) (ht : t < 1000000) (hw : cL M0 (st + 10) q = wd (nI w) (nI f) s) (hw2 : w < 256) (hf : f < 16777216) :
    RN N K z st t M = (fC_X2_perform N K (z + 35) (nI w) (nI f) s (wI M (z + 38 + 2 * h) 2 (nI (q + 1)))).bind (RN N K z st (t + 1)) ∧ PLN z h fl t0 M (wI M (z + 38 + 2 * h) 2 (nI (q + 1))) S S ∧ LY z K (wI M (z + 38 + 2 * h) 2 (nI (q + 1))) := by
  have hh := m.hh X
  have hL := m.ly X
  obtain ⟨nh, no, -, -, m1, m2, -⟩ := m
  obtain ⟨⟨x1, x2, x3, x4, x5, x6, -⟩, ⟨y1, y2, y3, y4, y5⟩, -⟩ := X
  have sg := m1.1
  refine ⟨RN_step hL ht hN m2.2.2.2.1 (by omega) m2.2.1 x6 h2 ?_ hq x5 ?_ y2 y3 y4 ?_ hw2 hf, (PLN.rf z h fl t0 M S).wf (by decide) (by omega), hL⟩
  · rw [sg.1 st (by unfold stA; omega)]; exact y5
  · rw [sg.2.2.2.1 st 9 (Or.inl (by omega))]; exact y1
  · rw [sg.2.2.1]; exact hw
/-- .. that of the ghost code's place c -/
theorem CDX.pl (X : CDX z b st nd nu K M0 S0 mk rc cc g pi J cl) (hc : c < rc) : pi c + tw (g c) ≤ cc ∧ cL M0 (st + 10) (pi c) = cwd b S0 pi (g c) ∧ ((g c).1 ≠ 0 → c + 1 < rc ∧ pi (c + 1) = pi c + tw (g c)) ∧ W1 g J rc c ∧ VO6 b S0 nd nu (g c) ∧ (g c).1 ≤ 24 := by
  obtain ⟨-, -, -, -, G, W, -, -, hl, -⟩ := X
  have e1 := G.mono rc (Nat.le_refl _) c hc
  rw [G.1] at e1
  refine ⟨e1, (G.2.1 c hc).1, fun h0 => ⟨?_, G.2.2.2.1 c hc h0⟩, W c hc⟩
  rcases hl with hl | hl
  · omega
  · by_cases e : c + 1 = rc
    · rw [← e, Nat.add_sub_cancel] at hl; exact absurd hl h0
    · omega
theorem CDX.rw (X : CDX z b st nd nu K M0 S0 mk rc cc g pi J cl) (hc : c < rc) (m : MBX z b st nd nu lim B0 clo M0 S0 t h fl t0 U who M S) : mA S 39 (10000 * b + c) = (rfd (10000 * b) (g c)).1 ∧ mA S 40 (10000 * b + c) = (rfd (10000 * b) (g c)).2.1 ∧ mA S 41 (10000 * b + c) = (rfd (10000 * b) (g c)).2.2 := by
  obtain ⟨nh, no, -, -, m1, -⟩ := m
  obtain ⟨-, -, -, -, G, -⟩ := X
  have A := m1.1.2.2.2.2.2.1
  rw [A 39 (by unfold stR; omega), A 40 (by unfold stR; omega), A 41 (by unfold stR; omega)]
  exact (G.2.1 c hc).2
theorem CDX.b2 (X : CDX z b st nd nu K M0 S0 mk rc cc g pi J cl) : b < 2 ∧ rc ≤ 8000 := by
  obtain ⟨⟨x1, x2, x3, x4, x5, x6, x7, -⟩, -⟩ := X
  omega
theorem gs_eq (q : PLN z h fl t0 M M' S S') : gS nu S' = gS nu S := by
  have h1 := q.gs (nu := nu)
  have A54 : mA S' 54 = mA S 54 := q.1.2.2.2.2.2.1 54 (by decide) (by decide) (by decide)
  have h2 : gS nu S ≤ gS nu S' := gS_ag q.2.2.2.2.1.2.1.symm q.2.2.2.2.1.1.symm (fun v hv => by rw [A54]; exact hv)
  omega
end SIM
