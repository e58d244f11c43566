/-! memory: what is read behind a store -/
theorem cI_w (M : Cm) (a k : Nat) (v : Int32) (b j : Nat) : cI (wI M a k v) b j = if b = a ∧ j = k then v else cI M b j := by
  by_cases h : b = a
  · subst h
    rw [cI_wI]
    by_cases h2 : j = k
    · simp [upd, h2]
    · simp [upd, h2]
  · rw [cI_wI_ne M k v h]
    simp [h]
theorem cL_w (M : Cm) (a k : Nat) (v : Int64) (b j : Nat) : cL (wL M a k v) b j = if b = a ∧ j = k then v else cL M b j := by
  by_cases h : b = a
  · subst h
    rw [cL_wL]
    by_cases h2 : j = k
    · simp [vp_updL, h2]
    · simp [vp_updL, h2]
  · rw [cL_wL_ne M k v h]
    simp [h]
theorem cR_w (M : Cm) (a k : Nat) (v : Option Nat) (b j : Nat) : cR (wR M a k v) b j = if b = a ∧ j = k then v else cR M b j := by
  by_cases h : b = a
  · subst h
    rw [cR_wR]
    by_cases h2 : j = k
    · simp [va_up, h2]
    · simp [va_up, h2]
  · rw [cR_wR_ne M k v h]
    simp [h]
theorem cI_L (M : Cm) (a k : Nat) (v : Int64) : cI (wL M a k v) = cI M := rfl
theorem cI_R (M : Cm) (a k : Nat) (v : Option Nat) : cI (wR M a k v) = cI M := rfl
theorem cL_I (M : Cm) (a k : Nat) (v : Int32) : cL (wI M a k v) = cL M := rfl
theorem cL_R (M : Cm) (a k : Nat) (v : Option Nat) : cL (wR M a k v) = cL M := rfl
theorem cR_I (M : Cm) (a k : Nat) (v : Int32) : cR (wI M a k v) = cR M := rfl
theorem cR_L (M : Cm) (a k : Nat) (v : Int64) : cR (wL M a k v) = cR M := rfl
theorem cI_z (M : Cm) (a b j : Nat) : cI (mZ M a) b j = if b = a then 0 else cI M b j := by
  by_cases h : b = a
  · subst h; rw [cI_mZs]; simp
  · rw [cI_mZ M h]; simp [h]
theorem cL_z (M : Cm) (a b j : Nat) : cL (mZ M a) b j = if b = a then 0 else cL M b j := by
  by_cases h : b = a
  · subst h; rw [cL_mZs]; simp
  · rw [cL_mZ M h]; simp [h]
theorem cR_z (M : Cm) (a b j : Nat) : cR (mZ M a) b j = if b = a then none else cR M b j := by
  by_cases h : b = a
  · subst h; rw [cR_mZs]; simp
  · rw [cR_mZ M h]; simp [h]
theorem kd_n (K : Ka) (kind len sl a : Nat) : kd (kNew K kind len sl) a = if a = kz K then kind else kd K a := by
  by_cases h : a = kz K
  · subst h; rw [kd_new]; simp
  · rw [kd_newo K kind len sl h]; simp [h]
theorem le_n (K : Ka) (kind len sl a : Nat) : le (kNew K kind len sl) a = if a = kz K then len else le K a := by
  by_cases h : a = kz K
  · subst h; rw [le_new]; simp
  · rw [le_newo K kind len sl h]; simp [h]
theorem kz_n (K : Ka) (kind len sl : Nat) : kz (kNew K kind len sl) = kz K + 1 := rfl
theorem ku_n (K : Ka) (kind len sl : Nat) : ku (kNew K kind len sl) = ku K + sl := rfl
/-! rows made one behind another for the fields of x0: (field, kind, length) -/
def mk (x0 : Nat) : List (Nat × Nat × Nat) → Ka × Cm → Ka × Cm
  | [], q => q
  | c :: r, q => mk x0 r (kNew q.1 c.2.1 c.2.2 c.2.2, wR (mZ q.2 (kz q.1)) x0 c.1 (some (kz q.1)))
theorem mk_kz (x0 : Nat) (al : List (Nat × Nat × Nat)) : ∀ q : Ka × Cm, kz (mk x0 al q).1 = kz q.1 + al.length := by
  induction al with
  | nil => intro q; rfl
  | cons c r ih => intro q; rw [mk, ih, List.length_cons, kz_n]; omega
theorem mk_ku (x0 : Nat) (al : List (Nat × Nat × Nat)) : ∀ q : Ka × Cm, ku (mk x0 al q).1 = ku q.1 + (al.map (fun c => c.2.2)).sum := by
  induction al with
  | nil => intro q; rfl
  | cons c r ih => intro q; rw [mk, ih, List.map_cons, List.sum_cons, ku_n]; omega
theorem mk_old (x0 : Nat) (al : List (Nat × Nat × Nat)) : ∀ (q : Ka × Cm) (a : Nat), a < kz q.1 → kd (mk x0 al q).1 a = kd q.1 a ∧ le (mk x0 al q).1 a = le q.1 a := by
  induction al with
  | nil => intro q a h; exact ⟨rfl, rfl⟩
  | cons c r ih =>
    intro q a h
    have hne : a ≠ kz q.1 := Nat.ne_of_lt h
    obtain ⟨h1, h2⟩ := ih (kNew q.1 c.2.1 c.2.2 c.2.2, wR (mZ q.2 (kz q.1)) x0 c.1 (some (kz q.1))) a (by show a < kz q.1 + 1; omega)
    rw [mk, h1, h2]
    exact ⟨kd_newo _ _ _ _ hne, le_newo _ _ _ _ hne⟩
theorem mk_new (x0 : Nat) (al : List (Nat × Nat × Nat)) : ∀ (q : Ka × Cm) (i : Nat) (c : Nat × Nat × Nat), al[i]? = some c → kd (mk x0 al q).1 (kz q.1 + i) = c.2.1 ∧ le (mk x0 al q).1 (kz q.1 + i) = c.2.2 := by
  induction al with
  | nil => intro q i c h; simp at h
  | cons c0 r ih =>
    intro q i c h
    rw [mk]
    cases i with
    | zero =>
      simp at h
      subst h
      obtain ⟨h1, h2⟩ := mk_old x0 r (kNew q.1 c0.2.1 c0.2.2 c0.2.2, wR (mZ q.2 (kz q.1)) x0 c0.1 (some (kz q.1))) (kz q.1 + 0) (by show kz q.1 + 0 < kz q.1 + 1; omega)
      rw [h1, h2]
      exact ⟨kd_new _ _ _ _, le_new _ _ _ _⟩
    | succ i =>
      have h' : r[i]? = some c := by simpa using h
      have := ih (kNew q.1 c0.2.1 c0.2.2 c0.2.2, wR (mZ q.2 (kz q.1)) x0 c0.1 (some (kz q.1))) i c h'
      have e : kz (kNew q.1 c0.2.1 c0.2.2 c0.2.2) + i = kz q.1 + (i + 1) := by rw [kz_n]; omega
      rw [e] at this
      exact this
theorem mk_I (x0 : Nat) (al : List (Nat × Nat × Nat)) : ∀ (q : Ka × Cm) (a j : Nat), a < kz q.1 → cI (mk x0 al q).2 a j = cI q.2 a j := by
  induction al with
  | nil => intro q a j h; rfl
  | cons c r ih =>
    intro q a j h
    have hne : a ≠ kz q.1 := Nat.ne_of_lt h
    rw [mk, ih _ a j (by show a < kz q.1 + 1; omega), cI_R, cI_mZ _ hne]
theorem mk_L (x0 : Nat) (al : List (Nat × Nat × Nat)) : ∀ (q : Ka × Cm) (a j : Nat), a < kz q.1 → cL (mk x0 al q).2 a j = cL q.2 a j := by
  induction al with
  | nil => intro q a j h; rfl
  | cons c r ih =>
    intro q a j h
    have hne : a ≠ kz q.1 := Nat.ne_of_lt h
    rw [mk, ih _ a j (by show a < kz q.1 + 1; omega), cL_R, cL_mZ _ hne]
theorem mk_R (x0 : Nat) (al : List (Nat × Nat × Nat)) : ∀ (q : Ka × Cm) (a k : Nat), a < kz q.1 → (a = x0 → ∀ c ∈ al, c.1 ≠ k) → cR (mk x0 al q).2 a k = cR q.2 a k := by
  induction al with
  | nil => intro q a k h _; rfl
  | cons c r ih =>
    intro q a k h hn
    have hne : a ≠ kz q.1 := Nat.ne_of_lt h
    rw [mk, ih _ a k (by show a < kz q.1 + 1; omega) (fun e c hc => hn e c (List.mem_cons_of_mem _ hc)), cR_w, cR_z]
    by_cases e : a = x0
    · have h9 : ¬ (a = x0 ∧ k = c.1) := fun z => hn e c List.mem_cons_self z.2.symm
      rw [if_neg h9, if_neg hne]
    · have h9 : ¬ (a = x0 ∧ k = c.1) := fun z => e z.1
      rw [if_neg h9, if_neg hne]
theorem mk_Rn (x0 : Nat) (al : List (Nat × Nat × Nat)) : ∀ (q : Ka × Cm), x0 < kz q.1 → (al.map (fun c => c.1)).Nodup → ∀ (i : Nat) (c : Nat × Nat × Nat), al[i]? = some c → cR (mk x0 al q).2 x0 c.1 = some (kz q.1 + i) := by
  induction al with
  | nil => intro q hx hn i c h; simp at h
  | cons c0 r ih =>
    intro q hx hn i c h
    rw [List.map_cons, List.nodup_cons] at hn
    rw [mk]
    cases i with
    | zero =>
      simp at h
      subst h
      rw [mk_R x0 r _ x0 c0.1 (by show x0 < kz q.1 + 1; omega) (fun _ c hc e => hn.1 (e ▸ List.mem_map_of_mem (f := fun c => c.1) hc)), cR_w]
      simp
    | succ i =>
      have h' : r[i]? = some c := by simpa using h
      rw [ih _ (by show x0 < kz q.1 + 1; omega) hn.2 i c h']
      show some (kz q.1 + 1 + i) = some (kz q.1 + (i + 1))
      congr 1
      omega
theorem mk_I0 (x0 : Nat) (al : List (Nat × Nat × Nat)) : ∀ (q : Ka × Cm) (a j : Nat), kz q.1 ≤ a → a < kz q.1 + al.length → cI (mk x0 al q).2 a j = 0 := by
  induction al with
  | nil => intro q a j h h2; simp at h2; omega
  | cons c r ih =>
    intro q a j h h2
    rw [mk]
    by_cases e : a = kz q.1
    · subst e
      rw [mk_I x0 r _ _ j (by show kz q.1 < kz q.1 + 1; omega), cI_R, cI_mZs]
    · rw [List.length_cons] at h2
      exact ih _ a j (by show kz q.1 + 1 ≤ a; omega) (by show a < kz q.1 + 1 + r.length; omega)
theorem mk_L0 (x0 : Nat) (al : List (Nat × Nat × Nat)) : ∀ (q : Ka × Cm) (a j : Nat), kz q.1 ≤ a → a < kz q.1 + al.length → cL (mk x0 al q).2 a j = 0 := by
  induction al with
  | nil => intro q a j h h2; simp at h2; omega
  | cons c r ih =>
    intro q a j h h2
    rw [mk]
    by_cases e : a = kz q.1
    · subst e
      rw [mk_L x0 r _ _ j (by show kz q.1 < kz q.1 + 1; omega), cL_R, cL_mZs]
    · rw [List.length_cons] at h2
      exact ih _ a j (by show kz q.1 + 1 ≤ a; omega) (by show a < kz q.1 + 1 + r.length; omega)
theorem mk_R0 (x0 : Nat) (al : List (Nat × Nat × Nat)) : ∀ (q : Ka × Cm) (a j : Nat), x0 < kz q.1 → kz q.1 ≤ a → a < kz q.1 + al.length → cR (mk x0 al q).2 a j = none := by
  induction al with
  | nil => intro q a j hx h h2; simp at h2; omega
  | cons c r ih =>
    intro q a j hx h h2
    rw [mk]
    by_cases e : a = kz q.1
    · subst e
      rw [mk_R x0 r _ _ j (by show kz q.1 < kz q.1 + 1; omega) (fun e => absurd e (by omega)), cR_w, if_neg (by omega), cR_mZs]
    · rw [List.length_cons] at h2
      exact ih _ a j (by show x0 < kz q.1 + 1; omega) (by show kz q.1 + 1 ≤ a; omega) (by show a < kz q.1 + 1 + r.length; omega)
/-- a cell of one kind stays so behind a new one -/
theorem ks {K : Ka} {x0 c : Nat} (h : kd K x0 = c ∧ x0 < kz K) (a b d : Nat) : kd (kNew K a b d) x0 = c ∧ x0 < kz (kNew K a b d) := ⟨(kd_newo _ _ _ _ (Nat.ne_of_lt h.2)).trans h.1, Nat.lt_succ_of_lt h.2⟩
theorem gd_t {ρ : Type} {b : Bool} {k : Option ρ} (h : b = true) : gd b k = k := by subst h; rfl
theorem gd_k {ρ : Type} {K : Ka} {a c : Nat} {k : Option ρ} (h : kd K a = c) : gd (kd K a == c) k = k := gd_t (by rw [h]; exact beq_self_eq_true c)
theorem nn_s {ρ : Type} {v : Option Nat} {a : Nat} {k : Nat → Option ρ} (h : v = some a) : nn v k = k a := by subst h; rfl
theorem ck_t {ρ : Type} {i : Int32} {n : Nat} {k : Option ρ} (h : vp_in i n) : ck i n k = k := by
  unfold ck
  rw [if_neg h]
theorem ck_n {ρ : Type} {i n : Nat} {k : Option ρ} (h : i < n) (hn : n < 2 ^ 31) : ck (nI i) n k = k := ck_t (nI_in h hn)
