
/-! the component's state: numbers, longs, references by address and place; kinds and lengths by address, the heap's size, slots made -/
abbrev Cm : Type := (Nat → Nat → Int32) × (Nat → Nat → Int64) × (Nat → Nat → Option Nat)
abbrev Ka : Type := (Nat → Nat × Nat) × Nat × Nat
def cI (M : Cm) (a k : Nat) : Int32 := M.1 a k
def cL (M : Cm) (a k : Nat) : Int64 := M.2.1 a k
def cR (M : Cm) (a k : Nat) : Option Nat := M.2.2 a k
def wI (M : Cm) (a k : Nat) (v : Int32) : Cm := (va_up M.1 a (upd (M.1 a) k v), M.2)
def wL (M : Cm) (a k : Nat) (v : Int64) : Cm := (M.1, va_up M.2.1 a (vp_updL (M.2.1 a) k v), M.2.2)
def wR (M : Cm) (a k : Nat) (v : Option Nat) : Cm := (M.1, M.2.1, va_up M.2.2 a (va_up (M.2.2 a) k v))
def kd (K : Ka) (a : Nat) : Nat := (K.1 a).1
def le (K : Ka) (a : Nat) : Nat := (K.1 a).2
def kz (K : Ka) : Nat := K.2.1
def ku (K : Ka) : Nat := K.2.2
/-- of each class: how many fields, which of them are references -/
def cN (c : Nat) : Nat := ([8, 6, 17, 6, 12, 14, 7, 14, 13, 108] : List Nat).getD c 0
def cRf (c k : Nat) : Bool := (([[true, true, true, true, false, false, false, false], [true, false, false, false, false, false], [true, true, true, true, true, true, false, false, false, false, false, false, false, false, false, false, false], [true, true, false, false, false, false], [true, true, true, true, true, true, true, true, true, true, false, false], [true, true, true, true, true, true, true, true, true, true, false, false, false, false], [true, true, true, true, true, false, false], [false, false, true, true, true, true, false, false, false, false, true, true, false, false], [true, true, true, true, true, true, true, true, false, false, false, false, false], [false, true, false, false, true, true, true, false, false, true, true, false, false, true, true, true, true, true, true, true, true, true, true, true, true, true, true, true, true, true, true, true, true, true, true, true, true, true, false, true, true, true, false, true, true, true, true, true, false, false, false, false, false, true, true, true, true, true, true, true, true, true, true, false, false, false, false, false, false, true, true, false, true, true, true, false, true, true, true, false, true, true, true, true, false, true, true, false, false, false, false, false, false, true, true, false, true, false, false, false, true, false, true, true, true, true, true, true]] : List (List Bool)).getD c []).getD k false
def fvC (c : Nat) (M : Cm) (a k : Nat) : Value := if cRf c k = true then va_rf (cR M a k) else .int (cI M a k)
def fldC (c : Nat) (M : Cm) (a : Nat) : List Value := (List.range (cN c)).map (fvC c M a)
/-- a cell by its kind: 1 .. 10 objects, 21 char, 22 int, 23 long, 24 boolean, 25 Frame, 26 Unit arrays -/
def cel (d : Dd) (K : Ka) (M : Cm) (a : Nat) : va_E :=
  if kd K a < 20 then .inr (kd K a - 1, fldC (kd K a - 1) M a)
  else if kd K a = 21 then .inl (d.2 0, le K a, .inl (cI M a))
  else if kd K a = 22 then .inl (d.2 1, le K a, .inl (cI M a))
  else if kd K a = 24 then .inl (d.2 3, le K a, .inl (cI M a))
  else if kd K a = 23 then .inl (d.2 2, le K a, .inr (.inl (cL M a)))
  else if kd K a = 25 then .inl (d.2 4, le K a, .inr (.inr (.inr (.inr (cR M a)))))
  else .inl (d.2 5, le K a, .inr (.inr (.inr (.inr (cR M a)))))
/-- the run's constants: classes, the heap's size at its start, where the String constants and their bytes lie -/
abbrev Xc : Type := Dd × Nat × (Nat → Nat) × (Nat → Nat) × Option Nat
def RC (x : Xc) (K : Ka) (M : Cm) (H : Heap) : Prop := H.size = kz K ∧ x.2.1 ≤ kz K ∧ ∀ a, kd K a ≠ 0 → x.2.1 ≤ a ∧ va_at x.1.1 vwCl (a, cel x.1 K M a) H
def AC (K : Ka) : Nat → Prop := fun q => kd K q ≠ 0 ∨ kz K ≤ q
def KLe (K K' : Ka) : Prop := kz K ≤ kz K' ∧ ku K ≤ ku K' ∧ ∀ a, kd K' a ≠ 0 → AC K a
theorem KLe.rf (K : Ka) : KLe K K := ⟨Nat.le_refl _, Nat.le_refl _, fun _ h => Or.inl h⟩
theorem KLe.tr {K K' K'' : Ka} (h : KLe K K') (h2 : KLe K' K'') : KLe K K'' := ⟨Nat.le_trans h.1 h2.1, Nat.le_trans h.2.1 h2.2.1, fun a ha => (h2.2.2 a ha).elim (fun z => h.2.2 a z) (fun z => Or.inr (Nat.le_trans h.1 z))⟩
theorem KLe.AC {K K' : Ka} (h : KLe K K') : ∀ q, AC K' q → AC K q := fun q z => z.elim (fun y => h.2.2 q y) (fun y => Or.inr (Nat.le_trans h.1 y))
theorem fldC_get (c : Nat) (M : Cm) (a : Nat) {k : Nat} (hk : k < cN c) : (fldC c M a)[k]? = some (fvC c M a k) := by
  simp [fldC, hk]
theorem fldC_len (c : Nat) (M : Cm) (a : Nat) : (fldC c M a).length = cN c := by simp [fldC]
theorem fldC_set (c : Nat) (M M' : Cm) (a : Nat) {k : Nat} {v : Value} (hv : fvC c M' a k = v) (ho : ∀ j, j ≠ k → fvC c M' a j = fvC c M a j) : (fldC c M a).set k v = fldC c M' a := by
  apply List.ext_getElem?
  intro i
  rw [List.getElem?_set]
  by_cases hi : i < cN c
  · rw [fldC_get c M' a hi, fldC_len]
    by_cases h : k = i
    · subst h
      simp [hi, hv]
    · rw [if_neg h, fldC_get c M a hi, ho i (fun z => h z.symm)]
  · have e1 : (fldC c M' a)[i]? = none := by rw [List.getElem?_eq_none_iff, fldC_len]; omega
    have e2 : (fldC c M a)[i]? = none := by rw [List.getElem?_eq_none_iff, fldC_len]; omega
    rw [e1, e2]
    by_cases h : k = i
    · subst h
      rw [if_pos rfl, fldC_len, if_neg hi]
    · rw [if_neg h]
theorem cI_wI (M : Cm) (a k : Nat) (v : Int32) : cI (wI M a k v) a = upd (cI M a) k v := by funext i; simp [cI, wI, va_up]; rfl
theorem cI_wI_ne (M : Cm) {a b : Nat} (k : Nat) (v : Int32) (h : b ≠ a) : cI (wI M a k v) b = cI M b := by funext i; simp [cI, wI, va_up, h]
theorem cL_wL (M : Cm) (a k : Nat) (v : Int64) : cL (wL M a k v) a = vp_updL (cL M a) k v := by funext i; simp [cL, wL, va_up]; rfl
theorem cL_wL_ne (M : Cm) {a b : Nat} (k : Nat) (v : Int64) (h : b ≠ a) : cL (wL M a k v) b = cL M b := by funext i; simp [cL, wL, va_up, h]
theorem cR_wR (M : Cm) (a k : Nat) (v : Option Nat) : cR (wR M a k v) a = va_up (cR M a) k v := by funext i; simp [cR, wR, va_up]
theorem cR_wR_ne (M : Cm) {a b : Nat} (k : Nat) (v : Option Nat) (h : b ≠ a) : cR (wR M a k v) b = cR M b := by funext i; simp [cR, wR, va_up, h]
theorem fldC_same {c : Nat} {M M' : Cm} {a : Nat} (h1 : cI M' a = cI M a) (h2 : cR M' a = cR M a) : fldC c M' a = fldC c M a := by
  unfold fldC
  congr 1
  funext k
  simp [fvC, h1, h2]
theorem cel_same {d : Dd} {K : Ka} {M M' : Cm} {a : Nat} (h1 : cI M' a = cI M a) (h2 : cL M' a = cL M a) (h3 : cR M' a = cR M a) : cel d K M' a = cel d K M a := by
  simp only [cel, fldC_same h1 h3, h1, h2, h3]
/-- one cell was written -/
theorem RC.put {x : Xc} {K : Ka} {M M' : Cm} {H H1 : Heap} (h : RC x K M H) {a : Nat} (ha : kd K a ≠ 0) (hz : H1.size = H.size) (ho : ∀ q : Nat, q ≠ a → H1[q]? = H[q]?) (hM : ∀ b, b ≠ a → cel x.1 K M' b = cel x.1 K M b) (hat : va_at x.1.1 vwCl (a, cel x.1 K M' a) H1) : RC x K M' H1 := by
  refine ⟨hz.trans h.1, h.2.1, fun b hb => ⟨(h.2.2 b hb).1, ?_⟩⟩
  by_cases e : b = a
  · subst e
    exact hat
  · rw [hM b e]
    exact va_at_off (h.2.2 b hb).2 ho e
theorem cel_obj {d : Dd} {K : Ka} {M : Cm} {a c : Nat} (h : kd K a = c + 1) (hc : c < 10) : cel d K M a = .inr (c, fldC c M a) := by
  have h1 : kd K a < 20 := by omega
  unfold cel
  rw [if_pos h1, h]
  rfl
theorem cel_i {d : Dd} {K : Ka} {M : Cm} {a : Nat} (h : kd K a = 22) : cel d K M a = .inl (d.2 1, le K a, .inl (cI M a)) := by simp [cel, h]
theorem cel_c {d : Dd} {K : Ka} {M : Cm} {a : Nat} (h : kd K a = 21) : cel d K M a = .inl (d.2 0, le K a, .inl (cI M a)) := by simp [cel, h]
theorem cel_z {d : Dd} {K : Ka} {M : Cm} {a : Nat} (h : kd K a = 24) : cel d K M a = .inl (d.2 3, le K a, .inl (cI M a)) := by simp [cel, h]
theorem cel_l {d : Dd} {K : Ka} {M : Cm} {a : Nat} (h : kd K a = 23) : cel d K M a = .inl (d.2 2, le K a, .inr (.inl (cL M a))) := by simp [cel, h]
theorem cel_f {d : Dd} {K : Ka} {M : Cm} {a : Nat} (h : kd K a = 25) : cel d K M a = .inl (d.2 4, le K a, .inr (.inr (.inr (.inr (cR M a))))) := by simp [cel, h]
theorem cel_u {d : Dd} {K : Ka} {M : Cm} {a : Nat} (h : kd K a = 26) : cel d K M a = .inl (d.2 5, le K a, .inr (.inr (.inr (.inr (cR M a))))) := by simp [cel, h]
theorem RC.one {x : Xc} {K : Ka} {M : Cm} {H : Heap} (h : RC x K M H) {a : Nat} (ha : kd K a ≠ 0) {e : va_E} (he : cel x.1 K M a = e) : va_P x.1.1 vwCl [(a, e)] H := by
  subst he
  intro i q hi
  match i, hi with
  | 0, hi => cases hi; exact (h.2.2 a ha).2
  | i + 1, hi => simp at hi
/-! the words that speak of nest mates -/
def isNest : Cond → Bool
  | .fieldLinkNest _ _ _ _ _ _ => true
  | .methodLinkNest _ _ _ _ => true
  | .declares _ => true
  | .castable _ _ => true
  | _ => false
def nws : List Cond := lw_tbl.filter isNest
theorem nws_in {w : Cond} (i : Nat) (h : lw_tbl[i]? = some w) (hg : isNest w = true) : w ∈ nws := List.mem_filter.mpr ⟨List.mem_of_getElem? h, hg⟩
def NW (U : State) : Prop := ∀ w ∈ nws, va_Nw w U
theorem NW.warm {s U : State} (hW : s.WarmedH U.vm) (h : NW s) : NW U := by
  intro w hw
  have h1 := (List.mem_filter.mp hw).2
  have h2 := h w hw
  cases w with
  | fieldLinkNest a b c d e f => exact va_Nw.warmF hW h2
  | methodLinkNest a b c d => exact va_Nw.warmM hW h2
  | declares a => exact va_Nw.warmD hW h2
  | castable a b => exact va_Nw.warmC hW h2
  | _ => cases h1

/-! what lies beside: the tables, nest words, String constants, Throwable's statics -/
def strN : Nat := 8
def strT : List String := ["device from to pace acting role like module on has demand closing setting static touch order check fail if else while try of kind beats ", "{}(),;=<+-*/%.", "a FAULT of the text", "no such unit", "nothing such of a unit", "no such static", "no such device", "nothing such of a device"]
def strB : List (List Int32) := strT.map (fun t => t.toList.map (fun c => Int32.ofNat c.toNat))
def strL : List Nat := strT.map (fun t => t.length)
/-- which String constant a pool's entry is: class, entry, text's number -/
def strR : List (String × Nat × Nat) := [("StationStarter$Tape", 36, 0), ("StationStarter$Tape", 68, 1), ("StationStarter$Reader", 75, 2), ("StationStarter", 242, 3), ("StationStarter", 271, 4), ("StationStarter", 273, 5), ("StationStarter", 301, 6), ("StationStarter", 303, 7), ("StationStarterModel", 34, 0)]
def lo0 (x : Xc) : Nat → Prop := fun q => x.2.1 ≤ q
