theorem cj_L_21 : CWi RL 21 yX8_init cX8_init 1 0 := ⟨Or.inl (lwg_in 146 (by decide +kernel) (by decide +kernel)), lwg_in 147 (by decide +kernel) (by decide +kernel), in_X8, lwg_in 148 (by decide +kernel) (by decide +kernel), rfl, by decide +kernel⟩
theorem wx9c : Cond.code yX9_init cX9_init 6 none ∈ lwg := List.mem_filter.mpr ⟨List.mem_append_right _ (List.mem_append_right _ (List.mem_append_right _ (List.mem_append_right _ (List.mem_append_right _ (List.mem_append_right _ (List.mem_append_left _ (List.mem_of_getElem? (i := 77) (by rfl)))))))), rfl⟩
theorem cj_L_24 : CWi RL 24 yX9_init cX9_init 6 0 := ⟨Or.inl (lwg_in 1395 (by decide +kernel) (by decide +kernel)), lwg_in 1396 (by decide +kernel) (by decide +kernel), in_X9, wx9c, rfl, by decide +kernel⟩
theorem cn_L_8 : CN RL 8 RX8 (cN 8) := ⟨lwg_in 144 (by decide +kernel) (by decide +kernel), lwg_in 145 (by decide +kernel) (by decide +kernel), lwg_in 121 (by decide +kernel) (by decide +kernel)⟩
theorem cn_L_22 : CN RL 22 RX9 (cN 9) := ⟨lwg_in 1394 (by decide +kernel) (by decide +kernel), lwg_in 1392 (by decide +kernel) (by decide +kernel), lwg_in 134 (by decide +kernel) (by decide +kernel)⟩

def K00 (z : Nat) : Ka := (fun _ => (0, 0), z, 0)
def M00 : Cm := (fun _ _ => 0, fun _ _ => 0, fun _ _ => none)
def inlO {α : Type} (v : Option (α ⊕ (Ka × Cm))) : Option α := match v with
  | some (.inl a) => some a
  | _ => none
theorem inlO_some {α : Type} {v : Option (α ⊕ (Ka × Cm))} {a : α} (h : inlO v = some a) : v = some (.inl a) := by
  match v, h with
  | some (.inl b), h => cases h; rfl
  | some (.inr q), h => cases h
  | none, h => cases h
/-- after the constructors: the component's cells with the reference's among them, where the reference begins, where it ends (there lies out) -/
def fInit (N : Nat) (sa : Nat → Nat) (z : Nat) : Option (Ka × Cm × Nat × Nat) := (inlO (fT_X8_init N z (kNew (K00 z) 9 0 (cN 8)) (mZ M00 z))).bind fun o1 => (inlO (fT_X9_init N sa (kz o1.1) (kNew o1.1 10 0 (cN 9)) (mZ o1.2 (kz o1.1)))).bind fun o2 => some (kNew o2.1 23 1 1, mZ o2.2 (kz o2.1), kz o1.1, kz o2.1)
def kCut (a2 a3 : Nat) (K : Ka) : Ka := (fun a => if a2 ≤ a ∧ a < a3 then (0, 0) else K.1 a, K.2)
def gOf (a2 : Nat) (M : Cm) : Gm := (a2, fun k => (cR M a2 k).getD 0)
def sOf (a2 : Nat) (M : Cm) : Ms := (fun k => cI M a2 k, fun k j => cI M ((cR M a2 k).getD 0) j, fun k j => cL M ((cR M a2 k).getD 0) j)
def kS (k : Nat) : Nat := if srt k = 1 then 22 else if srt k = 2 then 23 else 24
def spl (a2 a3 : Nat) (K : Ka) (M : Cm) : Prop := kd K a2 = 10 ∧ (∀ k, k < 108 → srt k ≠ 0 → ∃ q, cR M a2 k = some q) ∧ (∀ k, isR k → ∃ q, cR M a2 k = some q ∧ kd K q = kS k ∧ le K q = lnM k ∧ a2 < q ∧ q < a3) ∧ (∀ k j, isR k → isR j → cR M a2 k = cR M a2 j → k = j) ∧ a2 < a3 ∧ a3 ≤ kz K
theorem kS_ne (k : Nat) : kS k ≠ 0 := by
  unfold kS
  by_cases h : srt k = 1
  · rw [if_pos h]; decide
  · rw [if_neg h]
    by_cases h2 : srt k = 2
    · rw [if_pos h2]; decide
    · rw [if_neg h2]; decide
theorem cRf9 : ∀ k, k < 108 → (cRf 9 k = true ↔ srt k ≠ 0) := by decide +kernel
theorem spl_LWd {x : Xc} {K : Ka} {M : Cm} {H : Heap} {a2 a3 : Nat} (hR : RC x K M H) (h : spl a2 a3 K M) : LWd x (gOf a2 M) (kCut a2 a3 K) M (sOf a2 M) H := by
  obtain ⟨h1, h2, h3, h4, h5, h6⟩ := h
  have hg2 : ∀ k q, cR M a2 k = some q → (gOf a2 M).2 k = q := fun k q e => by simp [gOf, e]
  have hcut : ∀ a, kd (kCut a2 a3 K) a ≠ 0 → ¬ (a2 ≤ a ∧ a < a3) ∧ kd (kCut a2 a3 K) a = kd K a ∧ le (kCut a2 a3 K) a = le K a := fun a ha => by
    by_cases hc : a2 ≤ a ∧ a < a3
    · exfalso
      apply ha
      simp [kd, kCut, hc]
    · refine ⟨hc, ?_, ?_⟩
      · simp [kd, kCut, hc]
      · simp [le, kCut, hc]
  refine ⟨⟨hR.1, hR.2.1, fun a ha => ?_⟩, ⟨?_, fun k hk => ?_⟩, ⟨fun k hk => ?_, fun k j hk hj e => ?_⟩, fun q hq => ?_⟩
  · obtain ⟨-, g2, g3⟩ := hcut a ha
    rw [g2] at ha
    have h9 := hR.2.2 a ha
    refine ⟨h9.1, ?_⟩
    have e : cel x.1 (kCut a2 a3 K) M a = cel x.1 K M a := by simp only [cel, g2, g3]
    rw [e]
    exact h9.2
  · have h9 := (hR.2.2 a2 (by rw [h1]; decide)).2
    rw [cel_obj (c := 9) (by rw [h1]) (by decide)] at h9
    have e : fldC 9 M a2 = fldM (gOf a2 M) (sOf a2 M) := by
      unfold fldC fldM
      apply List.map_congr_left
      intro k hk
      have hk8 : k < 108 := List.mem_range.mp hk
      unfold fvC fldV
      by_cases hs : srt k = 0
      · have hc : ¬ cRf 9 k = true := fun z => (cRf9 k hk8).mp z hs
        rw [if_neg hc, if_pos hs]
        rfl
      · have hc : cRf 9 k = true := (cRf9 k hk8).mpr hs
        obtain ⟨q, hq⟩ := h2 k hk8 hs
        rw [if_pos hc, if_neg hs, hg2 k q hq, hq]
        rfl
    rw [e] at h9
    exact h9
  · obtain ⟨q, hq, hkd, hle, -, -⟩ := h3 k hk
    have h9 := (hR.2.2 q (by rw [hkd]; exact kS_ne k)).2
    rw [hg2 k q hq]
    have em : mA (sOf a2 M) k = cI M q := by funext j; simp [mA, sOf, hq]
    have el : mL (sOf a2 M) k = cL M q := by funext j; simp [mL, sOf, hq]
    rcases hk with hk | hk | hk
    · rw [arM_1 hk, em, ← hle, ← cel_i (d := x.1) (K := K) (M := M) (a := q) (by rw [hkd]; simp [kS, hk])]
      exact h9
    · rw [arM_2 hk, el, ← hle, ← cel_l (d := x.1) (K := K) (M := M) (a := q) (by rw [hkd]; simp [kS, hk])]
      exact h9
    · rw [arM_3 hk, em, ← hle, ← cel_z (d := x.1) (K := K) (M := M) (a := q) (by rw [hkd]; simp [kS, hk])]
      exact h9
  · obtain ⟨q, hq, -, -, hlt, -⟩ := h3 k hk
    rw [hg2 k q hq]
    show q ≠ a2
    omega
  · obtain ⟨q, hq, -⟩ := h3 k hk
    obtain ⟨q', hq', -⟩ := h3 j hj
    rw [hg2 k q hq, hg2 j q' hq'] at e
    exact h4 k j hk hj (by rw [hq, hq', e])
  · have hin : a2 ≤ q ∧ q < a3 ∧ kd K q ≠ 0 := by
      rcases hq with hq | ⟨k, hk, hq⟩
      · have e : q = a2 := hq
        rw [e]
        exact ⟨Nat.le_refl _, h5, by rw [h1]; decide⟩
      · obtain ⟨q', hq', hkd, -, hlt, hlt2⟩ := h3 k hk
        rw [hq, hg2 k q' hq']
        exact ⟨Nat.le_of_lt hlt, hlt2, by rw [hkd]; exact kS_ne k⟩
    refine ⟨(hR.2.2 q hin.2.2).1, Nat.lt_of_lt_of_le hin.2.1 h6, ?_⟩
    simp [kd, kCut, hin.1, hin.2.1]
