/-! reads behind the reference's stores -/
theorem mF_F (S : Ms) (k : Nat) (v : Int32) (j : Nat) : mF (pF S k v) j = if j = k then v else mF S j := rfl
theorem mA_F (S : Ms) (k : Nat) (v : Int32) : mA (pF S k v) = mA S := rfl
theorem mL_F (S : Ms) (k : Nat) (v : Int32) : mL (pF S k v) = mL S := rfl
theorem mF_A (S : Ms) (k i : Nat) (v : Int32) : mF (pA S k i v) = mF S := rfl
theorem mL_A (S : Ms) (k i : Nat) (v : Int32) : mL (pA S k i v) = mL S := rfl
theorem mF_L (S : Ms) (k i : Nat) (v : Int64) : mF (pL S k i v) = mF S := rfl
theorem mA_L (S : Ms) (k i : Nat) (v : Int64) : mA (pL S k i v) = mA S := rfl
theorem mA_A (S : Ms) (k i : Nat) (v : Int32) (k' j : Nat) : mA (pA S k i v) k' j = if k' = k ∧ j = i then v else mA S k' j := by
  by_cases h : k' = k
  · subst h
    rw [mA_pA]
    by_cases h2 : j = i
    · simp [upd, h2]
    · simp [upd, h2]
  · have e : mA (pA S k i v) k' = mA S k' := by funext z; simp [mA, pA, va_up, h]
    rw [e]
    simp [h]
theorem mA_Ane (S : Ms) {k k' : Nat} (i : Nat) (v : Int32) (h : k' ≠ k) : mA (pA S k i v) k' = mA S k' := by
  funext z
  rw [mA_A, if_neg (fun e => h e.1)]
theorem mL_L (S : Ms) (k i : Nat) (v : Int64) (k' j : Nat) : mL (pL S k i v) k' j = if k' = k ∧ j = i then v else mL S k' j := by
  by_cases h : k' = k
  · subst h
    rw [mL_pL]
    by_cases h2 : j = i
    · simp [vp_updL, h2]
    · simp [vp_updL, h2]
  · have e : mL (pL S k i v) k' = mL S k' := by funext z; simp [mL, pL, va_up, h]
    rw [e]
    simp [h]
/-! the invariant between calls: the component at z, the reference S -/
/-- plain numbers: beat, ended, latest, shut, steps in all -/
def R1 (z : Nat) (M : Cm) (S : Ms) : Prop := cI M (z + 8) 11 = mF S 63 ∧ cI M z 9 = mF S 88 ∧ cI M z 10 = mF S 89 ∧ cI M z 11 = mF S 66 ∧ cI M z 12 = mF S 64 ∧ (mF S 64 = 0 ∨ mF S 64 = 1) ∧ cI M (z + 35) 11 = mF S 65
/-- the tape -/
def RT (z : Nat) (M : Cm) (S : Ms) : Prop := ∃ n, n ≤ 4000 ∧ cI M (z + 1) 5 = nI n ∧ mF S 2 = nI n ∧ ∀ j, j < n → cI M (z + 2) j = mA S 1 j ∧ ∃ c, (c = 10 ∨ 32 ≤ c ∧ c ≤ 126) ∧ mA S 1 j = nI c
/-- the keywords -/
def RK (z : Nat) (M : Cm) (S : Ms) : Prop := (∀ j, cL M (z + 6) j = kwT j) ∧ ∀ j, mL S 10 j = kwT j
/-- what was foreseen -/
def RF (z : Nat) (M : Cm) (S : Ms) : Prop := ∃ n, n ≤ 24 ∧ cI M z 8 = nI n ∧ mF S 101 = nI n ∧ ∀ j, j < n → cI M (z + 88) j = mA S 100 j
/-- what came up -/
def RU (z : Nat) (M : Cm) (S : Ms) : Prop := ∃ n, n ≤ 744 ∧ cI M (z + 30) 4 = nI n ∧ mF S 75 = nI n ∧ ∀ j, j < n → cI M (z + 31) (j * 3) = mA S 72 j ∧ cI M (z + 31) (j * 3 + 1) = mA S 73 j ∧ cI M (z + 31) (j * 3 + 2) = mA S 74 j
/-- HALF looks and orders: no more than steps -/
def RH (z : Nat) (M : Cm) (S : Ms) : Prop := ∃ n s, n ≤ 1000000000 ∧ s ≤ 100000 ∧ mF S 65 = nI s ∧ cI M (z + 30) 5 = nI n ∧ mF S 79 = nI n ∧ ∀ j, j < n → j < 200 → cI M (z + 32) (j * 3) = mA S 76 j ∧ cI M (z + 32) (j * 3 + 1) = mA S 77 j ∧ cI M (z + 32) (j * 3 + 2) = mA S 78 j
def RO (z : Nat) (M : Cm) (S : Ms) : Prop := ∃ n s, n ≤ 1000000000 ∧ s ≤ 100000 ∧ mF S 65 = nI s ∧ cI M (z + 30) 6 = nI n ∧ mF S 84 = nI n ∧ ∀ j, j < n → j < 200 → cI M (z + 33) (j * 4) = mA S 80 j ∧ cI M (z + 33) (j * 4 + 1) = mA S 81 j ∧ cI M (z + 33) (j * 4 + 2) = mA S 82 j ∧ cI M (z + 33) (j * 4 + 3) = mA S 83 j ∧ (mA S 83 j = 0 ∨ mA S 83 j = 1)
/-- what was closed -/
def RZ (z : Nat) (M : Cm) (S : Ms) : Prop := ∃ n, n ≤ 24 ∧ cI M (z + 30) 7 = nI n ∧ mF S 87 = nI n ∧ ∀ j, j < n → cI M (z + 34) (j * 2) = mA S 85 j ∧ cI M (z + 34) (j * 2 + 1) = mA S 86 j
/-- planned faults -/
def RP (z : Nat) (M : Cm) (S : Ms) (nu : Nat) : Prop := ∃ n, n ≤ 40 ∧ cI M (z + 8) 10 = nI n ∧ mF S 71 = nI n ∧ (∀ u e, u < 24 → e ≤ 30 → ((cI M (z + 16) u >>> (nI e &&& 31)) &&& 1 = 1 ↔ ∃ k, k < n ∧ mA S 69 k = nI u ∧ mA S 70 k = nI e)) ∧ ∀ k, k < n → ∃ u e, u < nu ∧ e ≤ 30 ∧ mA S 69 k = nI u ∧ mA S 70 k = nI e
/-- how a unit stands -/
def RE1 (z : Nat) (M : Cm) (S : Ms) (nu u : Nat) : Prop := cI M (z + 9) u = mA S 54 u ∧ cI M (z + 10) u = mA S 55 u ∧ cI M (z + 12) u = mA S 57 u ∧ cI M (z + 13) u = mA S 58 u ∧ (mA S 54 u ≠ 3 → mA S 57 u = 0 ∧ mA S 58 u = 0) ∧ (∃ e, e ≤ 30 ∧ mA S 55 u = nI e) ∧ (∃ n, n ≤ 23 ∧ cI M (z + 15) u = nI n ∧ mA S 60 u = nI n ∧ ∀ i, i < n → cI M (z + 14) (24 * u + i) = mA S 59 (24 * u + i)) ∧ (∃ t, t ≤ 4 ∧ mA S 54 u = nI t) ∧ (nu ≤ u → mA S 54 u = 0)
def RE (z : Nat) (M : Cm) (S : Ms) (nu : Nat) : Prop := ∀ u, u < 24 → RE1 z M S nu u
/-- how a device stands -/
def RD (z : Nat) (M : Cm) (S : Ms) (nd : Nat) : Prop := ∀ d, d < nd → cI M (z + 17) d = mA S 61 d ∧ cI M (z + 18) d = mA S 62 d ∧ (∃ a, a ≤ 999999999 ∧ mA S 61 d = nI a) ∧ ∃ a, a ≤ 999999999 ∧ mA S 62 d = nI a
/-- a row of the station: where it lies, its kind, what it holds at least -/
def rw1 (z : Nat) (K : Ka) (M : Cm) (st sl kind m a : Nat) : Prop := cR M st sl = some a ∧ (z + 89 ≤ a ∧ a < kz K) ∧ a ≠ z + 173 ∧ kd K a = kind ∧ m ≤ le K a ∧ le K a < 2 ^ 31
/-- a unit told: object tu, its number i in the reference's rows -/
def UN (z : Nat) (K : Ka) (M : Cm) (S : Ms) (tu i u : Nat) : Prop := (z + 89 ≤ tu ∧ tu < kz K) ∧ kd K tu = 8 ∧ cI M tu 0 = mA S 20 i ∧ (mA S 20 i = 0 ∨ mA S 20 i = 1) ∧ cI M tu 1 = mA S 21 i ∧ (mA S 21 i = 0 ∨ mA S 21 i = 1) ∧ cI M tu 6 = mA S 22 i ∧ cI M tu 7 = mA S 23 i ∧ ∃ ni ns, ns ≤ ni ∧ ni ≤ 8 ∧ cI M tu 8 = nI ni ∧ mA S 25 i = nI ni ∧ cI M tu 9 = nI ns ∧ mA S 31 i = nI ns ∧ mA S 30 i = nI (ni - ns) ∧ (∀ r, r < ns → ∃ s, s < ni ∧ mA S 27 (8 * i + s) = 0 ∧ mA S 29 (8 * i + s) = nI r ∧ ∀ s', s' < s → mA S 27 (8 * i + s') ≠ 0 ∨ mA S 29 (8 * i + s') ≠ nI r) ∧ (∀ s, s < ni → (mA S 27 (8 * i + s) = 0 ∨ mA S 27 (8 * i + s) = 1)) ∧ ∀ s, s < ni → mA S 27 (8 * i + s) = 0 → ∃ r, r < ns ∧ mA S 29 (8 * i + s) = nI r ∧ cI M (z + 11) (8 * u + r) = mA S 56 (8 * u + s)
/-- the station: which bank b, object st, how many devices, units, demands -/
def SA (z : Nat) (K : Ka) (M : Cm) (S : Ms) (b st nd nu nm : Nat) : Prop :=
  (b = 0 ∨ b = 1) ∧ mF S 11 = nI b ∧ cR M z 7 = some st ∧ (z + 89 ≤ st ∧ st < kz K) ∧ kd K st = 6 ∧ nd ≤ 24 ∧ nu ≤ 24 ∧ nm ≤ 20 ∧ cI M st 10 = nI nd ∧ mA S 13 b = nI nd ∧ cI M st 11 = nI nu ∧ mA S 18 b = nI nu ∧ cI M st 12 = nI nm ∧ mA S 35 b = nI nm
def SD (z : Nat) (K : Ka) (M : Cm) (S : Ms) (b st nd : Nat) : Prop := ∃ a0 a1 a2 a3, rw1 z K M st 0 23 nd a0 ∧ rw1 z K M st 1 22 nd a1 ∧ rw1 z K M st 2 22 nd a2 ∧ rw1 z K M st 3 22 nd a3 ∧ ∀ d, d < nd → cL M a0 d = mL S 14 (24 * b + d) ∧ cI M a1 d = mA S 15 (24 * b + d) ∧ cI M a2 d = mA S 16 (24 * b + d) ∧ cI M a3 d = mA S 17 (24 * b + d) ∧ (∃ a, a ≤ 999999999 ∧ mA S 15 (24 * b + d) = nI a) ∧ (∃ a, a ≤ 999999999 ∧ mA S 16 (24 * b + d) = nI a) ∧ ∃ a, 1 ≤ a ∧ a ≤ 999999999 ∧ mA S 17 (24 * b + d) = nI a
def SU (z : Nat) (K : Ka) (M : Cm) (S : Ms) (b st nu : Nat) : Prop := ∃ a4 a5 a6, rw1 z K M st 4 23 nu a4 ∧ rw1 z K M st 5 26 nu a5 ∧ rw1 z K M st 6 22 nu a6 ∧ (∀ u, u < nu → cL M a4 u = mL S 19 (24 * b + u) ∧ ∃ tu, cR M a5 u = some tu ∧ UN z K M S tu (24 * b + u) u) ∧ ∀ u v, u < nu → v < nu → (cI M a6 u >>> (nI v &&& 31)) &&& 1 = mA S 34 (24 * (24 * b + u) + v) ∧ (mA S 34 (24 * (24 * b + u) + v) = 0 ∨ mA S 34 (24 * (24 * b + u) + v) = 1)
def SM (z : Nat) (K : Ka) (M : Cm) (S : Ms) (b st nm : Nat) : Prop := ∃ a7 a8, rw1 z K M st 7 23 nm a7 ∧ rw1 z K M st 8 22 nm a8 ∧ ∀ d, d < nm → cL M a7 d = mL S 36 (20 * b + d)
/-- names of one sort: no keyword, no name twice -/
def NM1 (S : Ms) (row base n : Nat) : Prop := (∀ d, d < n → ∀ r, r < 25 → mL S row (base + d) ≠ kwT r) ∧ ∀ d e, d < n → e < n → mL S row (base + d) = mL S row (base + e) → d = e
/-- the names, and the instructions of both (these to be told) -/
def SC (z : Nat) (K : Ka) (M : Cm) (S : Ms) (b st nd nu nm : Nat) : Prop := NM1 S 14 (24 * b) nd ∧ NM1 S 19 (24 * b) nu ∧ NM1 S 36 (20 * b) nm ∧ True
/-- the law's own row -/
def RX (z : Nat) (K : Ka) : Prop := kd K (z + 173) = 23 ∧ le K (z + 173) = 1 ∧ z + 174 ≤ kz K
def RelP (z : Nat) (K : Ka) (M : Cm) (S : Ms) (b st nd nu nm : Nat) : Prop :=
  LY z K M ∧ R1 z M S ∧ RT z M S ∧ RK z M S ∧ RF z M S ∧ RU z M S ∧ RH z M S ∧ RO z M S ∧ RZ z M S ∧ RP z M S nu ∧ RE z M S nu ∧ RD z M S nd ∧ SA z K M S b st nd nu nm ∧ SD z K M S b st nd ∧ SU z K M S b st nu ∧ SM z K M S b st nm ∧ SC z K M S b st nd nu nm ∧ RX z K
def Rel (z : Nat) (K : Ka) (M : Cm) (S : Ms) : Prop := ∃ b st nd nu nm, RelP z K M S b st nd nu nm
/-- the invariant doesn't speak of what was thrown last -/
theorem RelP.thr {z : Nat} {K : Ka} {M : Cm} {S : Ms} {b st nd nu nm : Nat} (h : RelP z K M S b st nd nu nm) (v : Int32) : RelP z K M (pF S 0 v) b st nd nu nm := h
