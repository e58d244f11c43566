/-! the station's rows -/
theorem nI_div {a b : Nat} (hb : 0 < b) (ha : a < 2 ^ 31) (hb2 : b < 2 ^ 31) : nI a / nI b = nI (a / b) := by
  have h1 : a / b ≤ a := Nat.div_le_self a b
  apply Int32.toInt_inj.mp
  rw [Int32.toInt_div, nI_toInt ha, nI_toInt hb2, nI_toInt (by omega), ← Int.ofNat_tdiv]
  generalize a / b = q at h1
  rw [Int.bmod_eq_of_le (by omega) (by omega)]
theorem nI_mul (a b : Nat) : nI a * nI b = nI (a * b) := (Int32.ofNat_mul a b).symm
theorem dk_ok {n : Nat} (h : n ≤ 1000000) : decide (¬ nI n < 0 ∧ (nI n).toNatClampNeg ≤ 1000000) = true := by
  apply decide_eq_true
  rw [nI_clamp (by omega)]
  exact ⟨nI_pos (by omega), h⟩
theorem min_ok {t m : Nat} (ht : t < 2 ^ 31) (hm : m < 2 ^ 31) : (if nI t < nI m then nI t else nI m) = nI (min t m) := by
  by_cases h : t < m
  · rw [if_pos (nI_lt h hm), Nat.min_eq_left (by omega)]
  · rw [if_neg (nI_nlt (by omega) ht), Nat.min_eq_right (by omega)]
def al5 (t : Nat) : List (Nat × Nat × Nat) := [(0, 23, min (t / 9 + 1) 24), (1, 22, min (t / 9 + 1) 24), (2, 22, min (t / 9 + 1) 24), (3, 22, min (t / 9 + 1) 24), (4, 23, min (t / 4 + 1) 24), (5, 26, min (t / 4 + 1) 24), (6, 22, min (t / 4 + 1) 24), (7, 23, min (t / 4 + 1) 20), (8, 22, min (t / 4 + 1) 20), (9, 23, t * 2 + 8)]
theorem e_X5_init (N x0 t : Nat) (K : Ka) (M : Cm) (ht : t ≤ 4001) (hk : kd K x0 = 6 ∧ x0 < kz K) : fT_X5_init N x0 (nI t) K M = some (.inl (mk x0 (al5 t) (K, wI (wI (wI (wI M x0 10 0) x0 11 0) x0 12 0) x0 13 0))) := by
  have d9 : nI t / 9 + 1 = nI (t / 9 + 1) := by
    rw [show (9 : Int32) = nI 9 from rfl, nI_div (by decide) (by omega) (by decide), nI_1]
  have d4 : nI t / 4 + 1 = nI (t / 4 + 1) := by
    rw [show (4 : Int32) = nI 4 from rfl, nI_div (by decide) (by omega) (by decide), nI_1]
  have q1 : (if nI t / 9 + 1 < 24 then nI t / 9 + 1 else 24) = nI (min (t / 9 + 1) 24) := by
    rw [d9]; exact min_ok (m := 24) (by omega) (by decide)
  have q2 : (if nI t / 4 + 1 < 24 then nI t / 4 + 1 else 24) = nI (min (t / 4 + 1) 24) := by
    rw [d4]; exact min_ok (m := 24) (by omega) (by decide)
  have q3 : (if nI t / 4 + 1 < 20 then nI t / 4 + 1 else 20) = nI (min (t / 4 + 1) 20) := by
    rw [d4]; exact min_ok (m := 20) (by omega) (by decide)
  have q4 : nI t * 2 + 8 = nI (t * 2 + 8) := by
    rw [show (2 : Int32) = nI 2 from rfl, show (8 : Int32) = nI 8 from rfl, nI_mul, nI_add]
  have c1 : (nI (min (t / 9 + 1) 24)).toNatClampNeg = min (t / 9 + 1) 24 := nI_clamp (by omega)
  have c2 : (nI (min (t / 4 + 1) 24)).toNatClampNeg = min (t / 4 + 1) 24 := nI_clamp (by omega)
  have c3 : (nI (min (t / 4 + 1) 20)).toNatClampNeg = min (t / 4 + 1) 20 := nI_clamp (by omega)
  have c4 : (nI (t * 2 + 8)).toNatClampNeg = t * 2 + 8 := nI_clamp (by omega)
  unfold fT_X5_init
  rw [q1, q2, q3, gd_k hk.1, gd_t (by decide), gd_t (by decide), gd_t (by decide), gd_t (dk_ok (by omega)), c1]
  replace hk := ks hk 23 (min (t / 9 + 1) 24) (min (t / 9 + 1) 24)
  unfold bT_X5_init_63
  rw [gd_k hk.1, gd_t (dk_ok (by omega)), c1]
  replace hk := ks hk 22 (min (t / 9 + 1) 24) (min (t / 9 + 1) 24)
  unfold bT_X5_init_70
  rw [gd_k hk.1, gd_t (dk_ok (by omega)), c1]
  replace hk := ks hk 22 (min (t / 9 + 1) 24) (min (t / 9 + 1) 24)
  unfold bT_X5_init_77
  rw [gd_k hk.1, gd_t (dk_ok (by omega)), c1]
  replace hk := ks hk 22 (min (t / 9 + 1) 24) (min (t / 9 + 1) 24)
  unfold bT_X5_init_84
  rw [gd_k hk.1, gd_t (dk_ok (by omega)), c2]
  replace hk := ks hk 23 (min (t / 4 + 1) 24) (min (t / 4 + 1) 24)
  unfold bT_X5_init_91
  rw [gd_k hk.1, gd_t (dk_ok (by omega)), c2]
  replace hk := ks hk 26 (min (t / 4 + 1) 24) (min (t / 4 + 1) 24)
  unfold bT_X5_init_99
  rw [gd_k hk.1, gd_t (dk_ok (by omega)), c2]
  replace hk := ks hk 22 (min (t / 4 + 1) 24) (min (t / 4 + 1) 24)
  unfold bT_X5_init_106
  rw [gd_k hk.1, gd_t (dk_ok (by omega)), c3]
  replace hk := ks hk 23 (min (t / 4 + 1) 20) (min (t / 4 + 1) 20)
  unfold bT_X5_init_114
  rw [gd_k hk.1, gd_t (dk_ok (by omega)), c3]
  replace hk := ks hk 22 (min (t / 4 + 1) 20) (min (t / 4 + 1) 20)
  unfold bT_X5_init_122
  rw [q4, gd_k hk.1, gd_t (dk_ok (by omega)), c4]
  replace hk := ks hk 23 (t * 2 + 8) (t * 2 + 8)
  unfold bT_X5_init_134
  rw [gd_k hk.1]
  rfl
theorem f_X5 (N x0 t : Nat) (K : Ka) (M : Cm) (ht : t ≤ 4001) (hk : kd K x0 = 6 ∧ x0 < kz K) : ∃ (K' : Ka) (M' : Cm), fT_X5_init N x0 (nI t) K M = some (.inl (K', M')) ∧ Bd x0 (al5 t) K M K' M' ∧ cI M' x0 10 = 0 ∧ cI M' x0 11 = 0 ∧ cI M' x0 12 = 0 ∧ cI M' x0 13 = 0 := by
  have hB := Bd_mk (x0 := x0) (al := al5 t) (K := K) (M := wI (wI (wI (wI M x0 10 0) x0 11 0) x0 12 0) x0 13 0) hk.2 (by simp [al5])
  have e := e_X5_init N x0 t K M ht hk
  have i1 : ∀ j, cI (mk x0 (al5 t) (K, wI (wI (wI (wI M x0 10 0) x0 11 0) x0 12 0) x0 13 0)).2 x0 j = cI (wI (wI (wI (wI M x0 10 0) x0 11 0) x0 12 0) x0 13 0) x0 j := fun j => mk_I _ _ _ _ _ hk.2
  generalize mk x0 (al5 t) (K, wI (wI (wI (wI M x0 10 0) x0 11 0) x0 12 0) x0 13 0) = q at e hB i1
  obtain ⟨K', M'⟩ := q
  have ho : ∀ a, a ≠ x0 → cI (wI (wI (wI (wI M x0 10 0) x0 11 0) x0 12 0) x0 13 0) a = cI M a := fun a hne => by
    rw [cI_wI_ne _ _ _ hne, cI_wI_ne _ _ _ hne, cI_wI_ne _ _ _ hne, cI_wI_ne _ _ _ hne]
  obtain ⟨h1, h2, h3, h4, h5, h6, h7⟩ := hB
  dsimp only at h1 h2 h3 h4 h5 h6 h7 i1
  refine ⟨K', M', e, ⟨h1, h2, h3, h4, fun a ha hne => ?_, h6, h7⟩, ?_, ?_, ?_, ?_⟩
  · obtain ⟨g1, g2, g3⟩ := h5 a ha hne
    exact ⟨g1.trans (ho a hne), g2, g3⟩
  · rw [i1]; simp only [cI_w]; simp
  · rw [i1]; simp only [cI_w]; simp
  · rw [i1]; simp only [cI_w]; simp
  · rw [i1]; simp only [cI_w]; simp
/-! where all lies: kinds and lengths, references; by offsets from z -/
def lyK : List (Nat × Nat) := [(9, 0), (7, 0), (21, 4000), (22, 4001), (22, 4001), (23, 4001), (23, 25), (4, 0), (5, 0), (22, 24), (22, 24), (22, 192), (22, 24), (22, 24), (22, 576), (22, 24), (22, 24), (22, 24), (22, 24), (5, 0), (22, 24), (22, 24), (22, 192), (22, 24), (22, 24), (22, 576), (22, 24), (22, 24), (22, 24), (22, 24), (1, 0), (22, 2232), (22, 600), (22, 800), (22, 48), (3, 0), (25, 25), (22, 850)]
def lyR : List (Nat × Nat × Nat) := [(1, 0, 2), (1, 1, 3), (1, 2, 4), (1, 3, 5), (1, 4, 6), (0, 0, 1), (7, 0, 1), (0, 1, 7), (8, 0, 9), (8, 1, 10), (8, 2, 11), (8, 3, 12), (8, 4, 13), (8, 5, 14), (8, 6, 15), (8, 7, 16), (8, 8, 17), (8, 9, 18), (0, 2, 8), (19, 0, 20), (19, 1, 21), (19, 2, 22), (19, 3, 23), (19, 4, 24), (19, 5, 25), (19, 6, 26), (19, 7, 27), (19, 8, 28), (19, 9, 29), (0, 3, 19), (30, 0, 31), (30, 1, 32), (30, 2, 33), (30, 3, 34), (0, 4, 30), (35, 0, 8), (35, 1, 30), (35, 2, 36), (35, 3, 37), (0, 5, 35), (0, 6, 88)]
def LY (z : Nat) (K : Ka) (M : Cm) : Prop := (∀ i c, lyK[i]? = some c → kd K (z + i) = c.1 ∧ (20 < c.1 → le K (z + i) = c.2)) ∧ (∀ t ∈ lyR, cR M (z + t.1) t.2.1 = some (z + t.2.2)) ∧ (∀ k, k < 25 → cR M (z + 36) k = some (z + 38 + 2 * k) ∧ kd K (z + 38 + 2 * k) = 2 ∧ kd K (z + 38 + 2 * k + 1) = 22 ∧ le K (z + 38 + 2 * k + 1) = 10 ∧ cR M (z + 38 + 2 * k) 0 = some (z + 38 + 2 * k + 1)) ∧ kd K (z + 88) = 22 ∧ le K (z + 88) = 24
/-- how far the constructor is: n cells; references Lr; ints Li and rows Lz that are 0 -/
def ST (n : Nat) (Lr : List (Nat × Nat × Nat)) (Li : List (Nat × Nat)) (Lz : List Nat) (z : Nat) (K : Ka) (M : Cm) : Prop :=
  kz K = z + n ∧ (∀ i c, i < n → lyK[i]? = some c → kd K (z + i) = c.1 ∧ (20 < c.1 → le K (z + i) = c.2)) ∧ (∀ t ∈ Lr, cR M (z + t.1) t.2.1 = some (z + t.2.2)) ∧ (∀ t ∈ Li, cI M (z + t.1) t.2 = 0) ∧ (∀ i ∈ Lz, ∀ j, cI M (z + i) j = 0)
theorem ST.wr {n : Nat} {Lr : List (Nat × Nat × Nat)} {Li : List (Nat × Nat)} {Lz : List Nat} {z : Nat} {K : Ka} {M : Cm} (h : ST n Lr Li Lz z K M) (o s p : Nat) (hn : Lr.all (fun t => !(t.1 == o && t.2.1 == s)) = true) : ST n (Lr ++ [(o, s, p)]) Li Lz z K (wR M (z + o) s (some (z + p))) := by
  obtain ⟨h1, h2, h3, h4, h5⟩ := h
  refine ⟨h1, h2, fun t ht => ?_, h4, h5⟩
  rw [cR_w]
  rcases List.mem_append.mp ht with ht | ht
  · have h9 := List.all_eq_true.mp hn t ht
    rw [if_neg (fun e => by
      have e1 : t.1 = o := by omega
      have e2 : t.2.1 = s := e.2
      simp [e1, e2] at h9)]
    exact h3 t ht
  · rw [List.mem_singleton] at ht
    subst ht
    rw [if_pos ⟨rfl, rfl⟩]
/-- .. of a constructor all but which other fields of x0 it leaves -/
def Be (x0 : Nat) (al : List (Nat × Nat × Nat)) (K : Ka) (M : Cm) (K' : Ka) (M' : Cm) : Prop :=
  kz K' = kz K + al.length ∧ ku K' = ku K + (al.map (fun c => c.2.2)).sum ∧ (∀ a, a < kz K → kd K' a = kd K a ∧ le K' a = le K a) ∧ (∀ i c, al[i]? = some c → kd K' (kz K + i) = c.2.1 ∧ le K' (kz K + i) = c.2.2 ∧ cR M' x0 c.1 = some (kz K + i)) ∧ (∀ a, a < kz K → a ≠ x0 → cI M' a = cI M a ∧ cL M' a = cL M a ∧ cR M' a = cR M a) ∧ (∀ a j, kz K ≤ a → a < kz K + al.length → cI M' a j = 0)
theorem Bd.e {x0 : Nat} {al : List (Nat × Nat × Nat)} {K : Ka} {M : Cm} {K' : Ka} {M' : Cm} (h : Bd x0 al K M K' M') : Be x0 al K M K' M' := ⟨h.1, h.2.1, h.2.2.1, h.2.2.2.1, h.2.2.2.2.1, h.2.2.2.2.2.1⟩
/-- a new object of class c - 1 with rows al -/
theorem ST.nw {n : Nat} {Lr : List (Nat × Nat × Nat)} {Li : List (Nat × Nat)} {Lz : List Nat} {z : Nat} {K : Ka} {M : Cm} (h : ST n Lr Li Lz z K M) (c sl : Nat) (al : List (Nat × Nat × Nat)) {K' : Ka} {M' : Cm} (B : Be (z + n) al (kNew K c 0 sl) (mZ M (kz K)) K' M')
    (hc : lyK[n]? = some (c, 0)) (hc2 : c < 20) (hal : ∀ i, i < al.length → lyK[n + 1 + i]? = (al[i]?).map (fun q => (q.2.1, q.2.2))) (hLr : Lr.all (fun t => t.1 < n) = true) (hLi : Li.all (fun t => t.1 < n) = true) (hLz : Lz.all (fun t => t < n) = true) :
    ST (n + 1 + al.length) (Lr ++ (List.range al.length).map (fun i => (n, ((al[i]?).getD (0, 0, 0)).1, n + 1 + i))) Li (Lz ++ (List.range al.length).map (fun i => n + 1 + i)) z K' M' := by
  obtain ⟨h1, h2, h3, h4, h5⟩ := h
  obtain ⟨b1, b2, b3, b4, b5, b6⟩ := B
  rw [kz_n] at b1 b3 b4 b5 b6
  have hold : ∀ a, a < z + n → cI M' a = cI M a ∧ cL M' a = cL M a ∧ cR M' a = cR M a := fun a ha => by
    obtain ⟨q1, q2, q3⟩ := b5 a (by omega) (by omega)
    exact ⟨q1.trans (cI_mZ M (by omega)), q2.trans (cL_mZ M (by omega)), q3.trans (cR_mZ M (by omega))⟩
  refine ⟨by omega, fun i c' hi hc' => ?_, fun t ht => ?_, fun t ht => ?_, fun i hi j => ?_⟩
  · by_cases h9 : i < n
    · obtain ⟨q1, q2⟩ := b3 (z + i) (by omega)
      rw [q1, q2, kd_newo _ _ _ _ (by omega), le_newo _ _ _ _ (by omega)]
      exact h2 i c' h9 hc'
    · by_cases h8 : i = n
      · subst h8
        cases Option.some.inj (hc.symm.trans hc')
        obtain ⟨q1, q2⟩ := b3 (z + i) (by omega)
        rw [q1, kd_n, if_pos h1.symm]
        exact ⟨rfl, fun z => absurd z (by show ¬ 20 < c; omega)⟩
      · obtain ⟨k, rfl⟩ : ∃ k, i = n + 1 + k := ⟨i - (n + 1), by omega⟩
        have hk : k < al.length := by omega
        have e := hal k hk
        rw [hc', List.getElem?_eq_getElem hk] at e
        have e2 : c' = (al[k].2.1, al[k].2.2) := Option.some.inj e
        obtain ⟨q1, q2, q3⟩ := b4 k al[k] (List.getElem?_eq_getElem hk)
        have ea : kz K + 1 + k = z + (n + 1 + k) := by omega
        rw [ea] at q1 q2
        rw [q1, q2, e2]
        exact ⟨rfl, fun _ => rfl⟩
  · rcases List.mem_append.mp ht with ht | ht
    · have h9 : t.1 < n := by simpa using List.all_eq_true.mp hLr t ht
      rw [(hold (z + t.1) (by omega)).2.2]
      exact h3 t ht
    · obtain ⟨k, hk, rfl⟩ := List.mem_map.mp ht
      have hk : k < al.length := List.mem_range.mp hk
      obtain ⟨q1, q2, q3⟩ := b4 k al[k] (List.getElem?_eq_getElem hk)
      show cR M' (z + n) ((al[k]?).getD (0, 0, 0)).1 = some (z + (n + 1 + k))
      rw [List.getElem?_eq_getElem hk]
      show cR M' (z + n) al[k].1 = _
      rw [q3]
      congr 1
      omega
  · have h9 : t.1 < n := by simpa using List.all_eq_true.mp hLi t ht
    rw [(hold (z + t.1) (by omega)).1]
    exact h4 t ht
  · rcases List.mem_append.mp hi with hi | hi
    · have h9 : i < n := by simpa using List.all_eq_true.mp hLz i hi
      rw [(hold (z + i) (by omega)).1]
      exact h5 i hi j
    · obtain ⟨k, hk, rfl⟩ := List.mem_map.mp hi
      have hk : k < al.length := List.mem_range.mp hk
      exact b6 _ j (by omega) (by omega)
theorem ST.i0 {n : Nat} {Lr : List (Nat × Nat × Nat)} {Li : List (Nat × Nat)} {Lz : List Nat} {z : Nat} {K : Ka} {M : Cm} (h : ST n Lr Li Lz z K M) {o s : Nat} (h0 : cI M (z + o) s = 0) : ST n Lr (Li ++ [(o, s)]) Lz z K M := by
  obtain ⟨h1, h2, h3, h4, h5⟩ := h
  refine ⟨h1, h2, h3, fun t ht => ?_, h5⟩
  rcases List.mem_append.mp ht with ht | ht
  · exact h4 t ht
  · rw [List.mem_singleton] at ht
    subst ht
    exact h0
theorem ta_s {α β : Type} (a : α) (k : α → Option (β ⊕ (Ka × Cm))) : ta (some (.inl a)) k = k a := rfl
theorem ST.rf {n : Nat} {Lr : List (Nat × Nat × Nat)} {Li : List (Nat × Nat)} {Lz : List Nat} {z : Nat} {K : Ka} {M : Cm} (h : ST n Lr Li Lz z K M) {o s p : Nat} (h0 : cR M (z + o) s = some (z + p)) : ST n (Lr ++ [(o, s, p)]) Li Lz z K M := by
  obtain ⟨h1, h2, h3, h4, h5⟩ := h
  refine ⟨h1, h2, fun t ht => ?_, h4, h5⟩
  rcases List.mem_append.mp ht with ht | ht
  · exact h3 t ht
  · rw [List.mem_singleton] at ht
    subst ht
    exact h0
theorem f_X3 (N x0 x1 : Nat) (K : Ka) (M : Cm) (hk : kd K x0 = 4) : ∃ M' : Cm, fT_X3_init N x0 x1 K M = some (.inl (K, M')) ∧ Be x0 [] K M K M' ∧ cR M' x0 0 = some x1 := by
  have e : fT_X3_init N x0 x1 K M = some (.inl (K, wR (wI (wI (wI (wI (wR M x0 1 none) x0 2 0) x0 3 0) x0 4 (-1)) x0 5 0) x0 0 (some x1))) := by
    unfold fT_X3_init
    rw [gd_k hk]
  refine ⟨_, e, ⟨rfl, rfl, fun a _ => ⟨rfl, rfl⟩, fun i c h => by simp at h, fun a ha hne => ⟨?_, rfl, ?_⟩, fun a j h1 h2 => ?_⟩, ?_⟩
  · rw [cI_R, cI_wI_ne _ _ _ hne, cI_wI_ne _ _ _ hne, cI_wI_ne _ _ _ hne, cI_wI_ne _ _ _ hne, cI_R]
  · rw [cR_wR_ne _ _ _ hne, cR_I, cR_I, cR_I, cR_I, cR_wR_ne _ _ _ hne]
  · simp at h2; omega
  · rw [cR_w, if_pos ⟨rfl, rfl⟩]
