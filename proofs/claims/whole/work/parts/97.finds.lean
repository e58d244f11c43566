/-! where a name is found: both the same -/
def rw53 (S : Ms) (r : Nat → Int32) : Ms := (S.1, va_up S.2.1 53 r, S.2.2)
theorem rw53_A (S : Ms) (r : Nat → Int32) {k : Nat} (h : k ≠ 53) : mA (rw53 S r) k = mA S k := by funext i; simp [mA, rw53, va_up, h]
theorem rw53_53 (S : Ms) (r : Nat → Int32) : mA (rw53 S r) 53 = r := by funext i; simp [mA, rw53, va_up]
theorem rw53_p (S : Ms) (r : Nat → Int32) (i : Nat) (w : Int32) : pA (rw53 S r) 53 i w = rw53 S (upd r i w) := by
  unfold pA rw53
  have e : va_up (va_up S.2.1 53 r) 53 (upd (va_up S.2.1 53 r 53) i w) = va_up S.2.1 53 (upd r i w) := by
    funext k
    by_cases h : k = 53
    · simp [va_up, h]
    · simp [va_up, h]
  show (S.1, va_up (va_up S.2.1 53 r) 53 (upd (va_up S.2.1 53 r 53) i w), S.2.2) = _
  rw [e]
theorem rw53_s (S : Ms) : rw53 S (mA S 53) = S := by
  have e : va_up S.2.1 53 (mA S 53) = S.2.1 := by
    funext k
    by_cases h : k = 53
    · subst h; simp [va_up]; rfl
    · simp [va_up, h]
  unfold rw53
  rw [e]
/-- x is item s of unit w -/
def hasI (S : Ms) (bn : Nat) (x : Int64) (w s : Nat) : Prop := (∃ ni, ni ≤ 8 ∧ mA S 25 (24 * bn + w) = nI ni ∧ s < ni) ∧ mL S 26 (8 * (24 * bn + w) + s) = x
noncomputable def hasP (S : Ms) (bn : Nat) (x : Int64) (r : Nat → Int32) (w : Nat) : Bool := @decide (r w = 0 ∧ ∃ s, hasI S bn x w s) (Classical.propDecidable _)
theorem hasP_t {S : Ms} {bn : Nat} {x : Int64} {r : Nat → Int32} {w : Nat} : hasP S bn x r w = true ↔ (r w = 0 ∧ ∃ s, hasI S bn x w s) := by unfold hasP; exact @decide_eq_true_iff _ (Classical.propDecidable _)
theorem hasP_f {S : Ms} {bn : Nat} {x : Int64} {r : Nat → Int32} {w : Nat} (h : ¬ (r w = 0 ∧ ∃ s, hasI S bn x w s)) : hasP S bn x r w = false := by
  cases e : hasP S bn x r w with
  | false => rfl
  | true => exact absurd (hasP_t.mp e) h
theorem hasP_c {S : Ms} {bn : Nat} {x : Int64} {r r' : Nat → Int32} (h1 : ∀ w, r w ≠ 0 → r' w ≠ 0) (h2 : ∀ w, r' w ≠ 0 → r w ≠ 0 ∨ ¬ ∃ s, hasI S bn x w s) : hasP S bn x r' = hasP S bn x r := by
  funext w
  have e : (r' w = 0 ∧ ∃ s, hasI S bn x w s) ↔ (r w = 0 ∧ ∃ s, hasI S bn x w s) := by
    constructor
    · intro ⟨q1, q2⟩
      exact ⟨Classical.byContradiction (fun q => h1 w q q1), q2⟩
    · intro ⟨q1, q2⟩
      refine ⟨Classical.byContradiction (fun q => ?_), q2⟩
      rcases h2 w q with w1 | w1
      · exact w1 q1
      · exact w1 q2
  cases e1 : hasP S bn x r w with
  | true => exact hasP_t.mpr (e.mpr (hasP_t.mp e1))
  | false => exact hasP_f (fun q => by have := hasP_t.mpr (e.mp q); rw [e1] at this; cases this)
section FINDS
variable {K : Ka} {M : Cm} {S : Ms} {bn sm nu : Nat} {fl : Nat → List Nat}
/-- what the reference reads of units -/
def UR (S : Ms) (bn : Nat) (fl : Nat → List Nat) (u : Nat) : Prop := (mA S 22 (24 * bn + u) = -1 ∨ ∃ v, v < u ∧ mA S 22 (24 * bn + u) = nI v) ∧ (∃ nr, nr ≤ 6 ∧ mA S 23 (24 * bn + u) = nI nr ∧ ∀ k, k < nr → ∃ r, r < u ∧ mA S 24 (6 * (24 * bn + u) + k) = nI r) ∧ (∃ ni, ni ≤ 8 ∧ mA S 25 (24 * bn + u) = nI ni ∧ NM1 S 26 (8 * (24 * bn + u)) ni) ∧ fl u = flq S bn fl u
theorem UR.mem {u : Nat} (h : UR S bn fl u) (hu : u < 24) (w : Nat) (hw : w ∈ fl u) : w = u ∨ ∃ v, v < u ∧ w ∈ fl v ∧ ∀ y, y ∈ fl v → y ∈ fl u := by
  obtain ⟨h1, ⟨nr, n1, n2, n3⟩, h3, h4⟩ := h
  have e : ∀ y, y ∈ fl u ↔ y ∈ flq S bn fl u := fun y => by rw [← h4]
  unfold flq at e
  rw [e] at hw
  rcases List.mem_cons.mp hw with q | q
  · exact Or.inl q
  · right
    rcases List.mem_append.mp q with q | q
    · obtain ⟨k, k1, k2⟩ := List.mem_flatMap.mp q
      have kn : k < nr := by have := List.mem_range.mp k1; rw [n2, nI_clamp (by omega)] at this; exact this
      obtain ⟨r, r1, r2⟩ := n3 k kn
      rw [r2, nI_clamp (by omega)] at k2
      refine ⟨r, r1, k2, fun y hy => ?_⟩
      rw [e]
      refine List.mem_cons_of_mem _ (List.mem_append.mpr (Or.inl (List.mem_flatMap.mpr ⟨k, k1, ?_⟩)))
      rw [r2, nI_clamp (by omega)]
      exact hy
    · rcases h1 with w1 | ⟨v, v1, v2⟩
      · rw [w1, if_pos (by decide)] at q; cases q
      · rw [v2, if_neg (nI_pos (by omega)), nI_clamp (by omega)] at q
        refine ⟨v, v1, q, fun y hy => ?_⟩
        rw [e]
        refine List.mem_cons_of_mem _ (List.mem_append.mpr (Or.inr ?_))
        rw [v2, if_neg (nI_pos (by omega)), nI_clamp (by omega)]
        exact hy
theorem UR.tr (hU : ∀ u, u < nu → UR S bn fl u) (hn : nu ≤ 24) : ∀ n u, u < n → u < nu → ∀ w, w ∈ fl u → w ≤ u ∧ ∀ y, y ∈ fl w → y ∈ fl u := by
  intro n
  induction n with
  | zero => intro u h; omega
  | succ n ih =>
    intro u h hu w hw
    rcases (hU u hu).mem (by omega) w hw with q | ⟨v, v1, v2, v3⟩
    · subst q; exact ⟨Nat.le_refl _, fun y hy => hy⟩
    · obtain ⟨w1, w2⟩ := ih v (by omega) (by omega) w v2
      exact ⟨by omega, fun y hy => v3 y (w2 y hy)⟩
/-- what a search of unit v answers -/
def FS (S : Ms) (bn : Nat) (fl : Nat → List Nat) (x : Int64) (l : List Nat) (r : Nat → Int32) (o : Option (Int32 × Ms)) : Prop :=
  (∃ w s r', l.find? (hasP S bn x r) = some w ∧ hasI S bn x w s ∧ o = some (1, pF (pF (rw53 S r') 51 (nI w)) 52 (nI s))) ∨
  (l.find? (hasP S bn x r) = none ∧ ∃ r', o = some (0, rw53 S r') ∧ ∀ w, r' w ≠ 0 ↔ r w ≠ 0 ∨ w ∈ l)
def Cl (fl : Nat → List Nat) (r : Nat → Int32) (u : Nat) : Prop := ∀ v, v ≤ u → r v ≠ 0 → ∀ w, w ∈ fl v → r w ≠ 0
theorem FS.nh {x : Int64} {l : List Nat} {r : Nat → Int32} (h : l.find? (hasP S bn x r) = none) (w : Nat) (hw : w ∈ l) : r w ≠ 0 ∨ ¬ ∃ s, hasI S bn x w s := by
  have := List.find?_eq_none.mp h w hw
  by_cases e : r w = 0
  · exact Or.inr (fun q => this (hasP_t.mpr ⟨e, q⟩))
  · exact Or.inl e
/-- a row of searches, one behind the other: the base last -/
theorem fs_base (N : Nat) {x : Int64} {u : Nat} (hU : UR S bn fl u) (hb : bn < 2) (hu : u < 24) {GF : Int32 → Int64 → Ms → Option (Int32 × Ms)} {r0 : Nat → Int32} (hG : ∀ v, v < u → ∀ r, Cl fl r v → FS S bn fl x (fl v) r (GF (nI v) x (rw53 S r)))
    (hC : ∀ v, v < u → Cl fl r0 v) : FS S bn fl x (if mA S 22 (24 * bn + u) < 0 then [] else fl (mA S 22 (24 * bn + u)).toNatClampNeg) r0 (bM_finds_114 N GF x (nI (24 * bn + u)) (rw53 S r0)) := by
  unfold bM_finds_114 bM_finds_143 bM_finds_144
  rw [ck_n (show 24 * bn + u < 48 by omega) (by decide), nI_clamp (by omega), rw53_A _ _ (by decide)]
  rcases hU.1 with q | ⟨v, v1, v2⟩
  · rw [q, if_pos (by decide), if_pos (by decide)]
    exact Or.inr ⟨rfl, r0, rfl, fun w => ⟨fun h => Or.inl h, fun h => h.elim id (fun q => nomatch q)⟩⟩
  · rw [v2, if_neg (nI_pos (by omega)), if_neg (nI_pos (by omega)), ck_n (show 24 * bn + u < 48 by omega) (by decide), nI_clamp (show v < 2 ^ 31 by omega)]
    rcases hG v v1 r0 (hC v v1) with ⟨w, s, r', q1, q2, q3⟩ | ⟨q1, r', q2, q3⟩
    · rw [q3, bs]
      exact Or.inl ⟨w, s, r', q1, q2, rfl⟩
    · rw [q2, bs]
      exact Or.inr ⟨q1, r', rfl, q3⟩
theorem fs_cat {x : Int64} {l1 l2 : List Nat} {r r1 : Nat → Int32} {o : Option (Int32 × Ms)} (h1 : l1.find? (hasP S bn x r) = none) (hr : ∀ w, r1 w ≠ 0 ↔ r w ≠ 0 ∨ w ∈ l1) (h2 : FS S bn fl x l2 r1 o) : FS S bn fl x (l1 ++ l2) r o := by
  have e : hasP S bn x r1 = hasP S bn x r := hasP_c (fun w hw => (hr w).mpr (Or.inl hw)) (fun w hw => by
    rcases (hr w).mp hw with q | q
    · exact Or.inl q
    · exact FS.nh h1 w q)
  unfold FS at h2 ⊢
  rw [e] at h2
  rw [List.find?_append, h1, Option.none_or]
  rcases h2 with q | ⟨q1, r', q2, q3⟩
  · exact Or.inl q
  · refine Or.inr ⟨q1, r', q2, fun w => ?_⟩
    rw [q3, hr, List.mem_append]
    exact or_assoc
theorem fs_roles (N : Nat) {x : Int64} {u : Nat} (hA : ∀ n v, v < n → v < u → ∀ w, w ∈ fl v → w ≤ v ∧ ∀ y, y ∈ fl w → y ∈ fl v) (hU : UR S bn fl u) (hb : bn < 2) (hu : u < 24) {GF : Int32 → Int64 → Ms → Option (Int32 × Ms)} (hG : ∀ v, v < u → ∀ r, Cl fl r v → FS S bn fl x (fl v) r (GF (nI v) x (rw53 S r)))
    {nr : Nat} (hnr : nr ≤ 6) (h23 : mA S 23 (24 * bn + u) = nI nr) (h24 : ∀ k, k < nr → ∃ r, r < u ∧ mA S 24 (6 * (24 * bn + u) + k) = nI r) :
    ∀ (m k n : Nat) (r0 : Nat → Int32), k + m = nr → m < n → (∀ v, v < u → Cl fl r0 v) → FS S bn fl x ((List.range' k m).flatMap (fun k => fl (mA S 24 (6 * (24 * bn + u) + k)).toNatClampNeg) ++ (if mA S 22 (24 * bn + u) < 0 then [] else fl (mA S 22 (24 * bn + u)).toNatClampNeg)) r0 (lM_finds_73 N GF (bM_finds_106 N GF) (bM_finds_114 N GF) n x (nI (24 * bn + u)) (nI k) (rw53 S r0)) := by
  intro m
  induction m with
  | zero =>
    intro k n r0 hk hn hC
    obtain ⟨n, rfl⟩ : ∃ n', n = n' + 1 := ⟨n - 1, by omega⟩
    rw [lM_finds_73, ck_n (show 24 * bn + u < 48 by omega) (by decide), nI_clamp (show 24 * bn + u < 2 ^ 31 by omega), rw53_A _ _ (by decide), h23, if_pos (nI_le (by omega) (by omega))]
    exact fs_base N hU hb hu hG hC
  | succ m ih =>
    intro k n r0 hk hn hC
    obtain ⟨n, rfl⟩ : ∃ n', n = n' + 1 := ⟨n - 1, by omega⟩
    obtain ⟨v, v1, v2⟩ := h24 k (by omega)
    have e6 : (6 : Int32) * nI (24 * bn + u) + nI k = nI (6 * (24 * bn + u) + k) := by rw [show (6 : Int32) = nI 6 from rfl, nI_mul, nI_add]
    rw [lM_finds_73, ck_n (show 24 * bn + u < 48 by omega) (by decide), nI_clamp (show 24 * bn + u < 2 ^ 31 by omega), rw53_A _ _ (by decide), h23, if_neg (nI_ge (show k < nr by omega) (by omega)), e6, ck_n (show 6 * (24 * bn + u) + k < 288 by omega) (by decide), nI_clamp (show 6 * (24 * bn + u) + k < 2 ^ 31 by omega), rw53_A _ _ (by decide), v2]
    have e1 : (List.range' k (m + 1)).flatMap (fun k => fl (mA S 24 (6 * (24 * bn + u) + k)).toNatClampNeg) = fl v ++ (List.range' (k + 1) m).flatMap (fun k => fl (mA S 24 (6 * (24 * bn + u) + k)).toNatClampNeg) := by
      rw [List.range'_succ, List.flatMap_cons, v2, nI_clamp (by omega)]
    rw [e1, List.append_assoc]
    rcases hG v v1 r0 (hC v v1) with ⟨w, s, r', q1, q2, q3⟩ | ⟨q1, r', q2, q3⟩
    · rw [q3, bs]
      refine Or.inl ⟨w, s, r', ?_, q2, rfl⟩
      rw [List.find?_append, q1]
      rfl
    · rw [q2, bs]
      dsimp only
      rw [if_pos rfl, nI_1]
      refine fs_cat q1 q3 (ih (k + 1) n r' (by omega) (by omega) (fun y hy y' h1 h2 w hw => ?_))
      rw [q3] at h2 ⊢
      rcases h2 with q | q
      · exact Or.inl (hC y hy y' h1 q w hw)
      · exact Or.inr ((hA (v + 1) v (by omega) v1 y' q).2 w hw)
theorem fn_ok (N : Nat) (hN : 30 < N) {x : Int64} (hU : ∀ u, u < nu → UR S bn fl u) (hnu : nu ≤ 24) (hb : bn < 2) (h12 : mF S 12 = nI bn) : ∀ (k u : Nat), u < k → u < nu → ∀ r, Cl fl r u → FS S bn fl x (fl u) r (gF N k (nI u) x (rw53 S r)) := by
  intro k
  induction k with
  | zero => intro u h; omega
  | succ k ih =>
    intro u hk hu r hC
    obtain ⟨h1, ⟨nr, n1, n2, n3⟩, ⟨ni, i1, i2, i3⟩, h4⟩ := id (hU u hu)
    rw [gF]
    unfold fM_finds
    rw [ck_n (show u < 24 by omega) (by decide), nI_clamp (show u < 2 ^ 31 by omega), rw53_53]
    by_cases hr : r u = 0
    · rw [if_pos hr, ck_n (show u < 24 by omega) (by decide), rw53_p]
      have e12 : mF (rw53 S (upd r u (vp_nar .boolean 1))) 12 = nI bn := h12
      have e24 : (24 : Int32) * nI bn + nI u = nI (24 * bn + u) := by rw [e24b, nI_add]
      have e8 : (8 : Int32) * nI (24 * bn + u) = nI (8 * (24 * bn + u)) := by rw [show (8 : Int32) = nI 8 from rfl, nI_mul]
      rw [e12, e24, ck_n (show 24 * bn + u < 48 by omega) (by decide), nI_clamp (show 24 * bn + u < 2 ^ 31 by omega), e8, rw53_A _ _ (by decide), i2]
      have er : ∀ w, upd r u (vp_nar .boolean 1) w = if w = u then 1 else r w := fun w => by
        unfold upd
        by_cases q : w = u
        · rw [if_pos q, if_pos q]; rfl
        · rw [if_neg q, if_neg q]
      generalize hr1 : upd r u (vp_nar .boolean 1) = r1 at *
      rcases fd_ok N (S := rw53 S r1) (row := 26) (base := 8 * (24 * bn + u)) (n := ni) x rfl (by show 8 * (24 * bn + u) + ni ≤ 384; omega) (by decide) N 0 (-1) (by omega) (by omega) with ⟨s, s1, s2, s3, s4, s5⟩ | ⟨s1, s2⟩
      · have s5' : fM_find N 26 (nI (8 * (24 * bn + u))) (nI ni) x (rw53 S r1) = some (nI s, rw53 S r1) := s5
        rw [s5', bs]
        dsimp only
        rw [if_neg (nI_pos (by omega))]
        have hs : hasI S bn x u s := ⟨⟨ni, i1, i2, s2⟩, s3⟩
        refine Or.inl ⟨u, s, r1, ?_, hs, rfl⟩
        rw [h4]
        exact List.find?_cons_of_pos (hasP_t.mpr ⟨hr, s, hs⟩)
      · have s2' : fM_find N 26 (nI (8 * (24 * bn + u))) (nI ni) x (rw53 S r1) = some (-1, rw53 S r1) := s2
        rw [s2', bs]
        dsimp only
        rw [if_pos (by decide)]
        have no : ¬ ∃ s, hasI S bn x u s := fun ⟨s, ⟨ni', w1, w2, w3⟩, w4⟩ => by
          have : ni = ni' := (nI_eq (by omega) (by omega)).mp (i2.symm.trans w2)
          exact s1 s (by omega) (by omega) w4
        have lp := fs_roles (S := S) (bn := bn) (fl := fl) N (x := x) (u := u) (fun n v q1 q2 w hw => UR.tr hU hnu n v q1 (by omega) w hw) (hU u hu) hb (by omega) (GF := gF N k) (fun v hv r' hr' => ih v (by omega) (by omega) r' hr') n1 n2 n3 nr 0 N r1 (by omega) (by omega) (fun v hv y hy hy2 w hw => by
          rw [er] at hy2 ⊢
          rw [if_neg (by omega)] at hy2
          by_cases e : w = u
          · rw [if_pos e]; decide
          · rw [if_neg e]; exact hC y (by omega) hy2 w hw)
        have e : fl u = [u] ++ ((List.range' 0 nr).flatMap (fun k => fl (mA S 24 (6 * (24 * bn + u) + k)).toNatClampNeg) ++ (if mA S 22 (24 * bn + u) < 0 then [] else fl (mA S 22 (24 * bn + u)).toNatClampNeg)) := by
          rw [h4]
          unfold flq
          rw [n2, nI_clamp (by omega), List.range_eq_range']
          rfl
        rw [e]
        refine fs_cat (List.find?_eq_none.mpr (fun w hw => ?_)) (fun w => ?_) lp
        · rw [List.mem_singleton.mp hw]
          rw [hasP_f (fun q => no q.2)]
          decide
        · rw [er, List.mem_singleton]
          by_cases e : w = u
          · rw [if_pos e]; exact ⟨fun _ => Or.inr e, fun _ => by decide⟩
          · rw [if_neg e]; exact ⟨fun h => Or.inl h, fun h => h.elim id (fun q => absurd q e)⟩
    · rw [if_neg hr]
      refine Or.inr ⟨List.find?_eq_none.mpr (fun w hw => ?_), r, rfl, fun w => ⟨fun h => Or.inl h, fun h => h.elim id (fun q => hC u (Nat.le_refl _) hr w q)⟩⟩
      rw [hasP_f (fun q => hC u (Nat.le_refl _) hr w hw q.1)]
      decide
end FINDS
