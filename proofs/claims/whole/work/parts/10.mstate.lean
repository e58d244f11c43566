
/-! the words that go along: the good ones of the tables -/
def lwg : List Cond := lw_tbl.filter goodWord
theorem lwg_in {w : Cond} (i : Nat) (h : lw_tbl[i]? = some w) (hg : goodWord w = true) : w ∈ lwg := List.mem_filter.mpr ⟨List.mem_of_getElem? h, hg⟩
theorem lwg_good {ws : List Cond} (h : ∀ w ∈ ws, w ∈ lwg) : GoodIn lwg ws := fun w hw => ⟨h w hw, good_of_word (List.mem_filter.mp (h w hw)).2⟩
/-- the classes of a run: objects' classes and slots; arrays' classes: char, int, long, boolean, Frame, Unit -/
abbrev Dd : Type := va_G × (Nat → ClassId)
abbrev dT (d : Dd) : List (ClassId × FieldType) := [(d.2 0, .char), (d.2 1, .int), (d.2 2, .long), (d.2 3, .boolean), (d.2 4, .object "StationStarter$Frame"), (d.2 5, .object "StationStarter$Unit")]
/-! the reference's state: its number fields, its rows of numbers, its rows of longs, each by the field's place -/
abbrev Ms : Type := (Nat → Int32) × (Nat → Nat → Int32) × (Nat → Nat → Int64)
def mF (S : Ms) (k : Nat) : Int32 := S.1 k
def mA (S : Ms) (k j : Nat) : Int32 := S.2.1 k j
def mL (S : Ms) (k j : Nat) : Int64 := S.2.2 k j
def pF (S : Ms) (k : Nat) (v : Int32) : Ms := (upd S.1 k v, S.2)
def pA (S : Ms) (k j : Nat) (v : Int32) : Ms := (S.1, va_up S.2.1 k (upd (S.2.1 k) j v), S.2.2)
def pL (S : Ms) (k j : Nat) (v : Int64) : Ms := (S.1, S.2.1, va_up S.2.2 k (vp_updL (S.2.2 k) j v))
/-- of each field of the reference: 0 a number, 1 a row of ints, 2 of longs, 3 of booleans, 4 a text; and how long its row is -/
def srt (k : Nat) : Nat := ([0, 1, 0, 0, 1, 1, 2, 0, 0, 4, 2, 0, 0, 1, 2, 1, 1, 1, 1, 2, 3, 3, 1, 1, 1, 1, 2, 3, 1, 1, 1, 1, 1, 1, 3, 1, 2, 1, 0, 1, 1, 1, 0, 1, 1, 1, 3, 1, 0, 0, 0, 0, 0, 3, 1, 1, 1, 1, 1, 1, 1, 1, 1, 0, 0, 0, 0, 0, 0, 1, 1, 0, 1, 1, 1, 0, 1, 1, 1, 0, 1, 1, 1, 3, 0, 1, 1, 0, 0, 0, 0, 0, 0, 3, 1, 0, 1, 0, 0, 0, 1, 0, 1, 1, 1, 1, 1, 1] : List Nat).getD k 9
def lnM (k : Nat) : Nat := ([0, 4000, 0, 0, 4002, 4002, 4002, 0, 0, 0, 26, 0, 0, 2, 48, 48, 48, 48, 2, 48, 48, 48, 48, 48, 288, 48, 384, 384, 384, 384, 48, 48, 48, 48, 1152, 2, 40, 40, 0, 20000, 20000, 20000, 0, 2000, 2000, 2000, 2000, 2000, 0, 0, 0, 0, 0, 24, 24, 24, 192, 24, 24, 576, 24, 24, 24, 0, 0, 0, 0, 0, 0, 40, 40, 0, 800, 800, 800, 0, 200, 200, 200, 0, 200, 200, 200, 200, 0, 24, 24, 0, 0, 0, 0, 0, 0, 576, 4000, 0, 600, 0, 0, 0, 24, 0, 24, 192, 24, 24, 24, 24] : List Nat).getD k 0
def isR (k : Nat) : Prop := srt k = 1 ∨ srt k = 2 ∨ srt k = 3
/-- where the reference lies: its object, and its rows by the fields' places -/
abbrev Gm : Type := Nat × (Nat → Nat)
def fldV (g : Gm) (S : Ms) (k : Nat) : Value := if srt k = 0 then .int (mF S k) else .ref (g.2 k)
def fldM (g : Gm) (S : Ms) : List Value := (List.range 108).map (fldV g S)
def arM (d : Dd) (S : Ms) (k : Nat) : va_E := if srt k = 1 then .inl (d.2 1, lnM k, .inl (mA S k)) else if srt k = 3 then .inl (d.2 3, lnM k, .inl (mA S k)) else .inl (d.2 2, lnM k, .inr (.inl (mL S k)))
def RM (d : Dd) (g : Gm) (S : Ms) (H : Heap) : Prop := va_at d.1 vwCl (g.1, .inr (9, fldM g S)) H ∧ ∀ k, isR k → va_at d.1 vwCl (g.2 k, arM d S k) H
def gOK (g : Gm) : Prop := (∀ k, isR k → g.2 k ≠ g.1) ∧ ∀ k j, isR k → isR j → g.2 k = g.2 j → k = j
def AM (g : Gm) : Nat → Prop := fun q => q = g.1 ∨ ∃ k, isR k ∧ q = g.2 k
theorem fldM_get (g : Gm) (S : Ms) {k : Nat} (hk : k < 108) : (fldM g S)[k]? = some (fldV g S k) := by
  simp [fldM, hk]
theorem fldM_len (g : Gm) (S : Ms) : (fldM g S).length = 108 := by simp [fldM]
theorem fldM_set (g : Gm) (S : Ms) {k : Nat} (h0 : srt k = 0) (v : Int32) : (fldM g S).set k (.int v) = fldM g (pF S k v) := by
  apply List.ext_getElem?
  intro i
  rw [List.getElem?_set]
  by_cases hi : i < 108
  · rw [fldM_get g (pF S k v) hi, fldM_len]
    by_cases h : k = i
    · subst h
      simp [hi, fldV, h0, mF, pF, upd]
    · rw [if_neg h, fldM_get g S hi]
      have h2 : ¬ i = k := fun z => h z.symm
      simp [fldV, mF, pF, upd, h2]
  · have e1 : (fldM g (pF S k v))[i]? = none := by rw [List.getElem?_eq_none_iff, fldM_len]; omega
    have e2 : (fldM g S)[i]? = none := by rw [List.getElem?_eq_none_iff, fldM_len]; omega
    rw [e1, e2]
    by_cases h : k = i
    · subst h
      rw [if_pos rfl, fldM_len, if_neg hi]
    · rw [if_neg h]
theorem RM.obj {d : Dd} {g : Gm} {S : Ms} {H : Heap} (h : RM d g S H) : va_P d.1 vwCl [(g.1, .inr (9, fldM g S))] H := by
  intro k q hk
  match k, hk with
  | 0, hk => cases hk; exact h.1
  | k + 1, hk => simp at hk
theorem RM.row {d : Dd} {g : Gm} {S : Ms} {H : Heap} (h : RM d g S H) {k : Nat} (hk : isR k) {e : va_E} (he : arM d S k = e) : va_P d.1 vwCl [(g.2 k, e)] H := by
  subst he
  intro i q hi
  match i, hi with
  | 0, hi => cases hi; exact h.2 k hk
  | i + 1, hi => simp at hi
theorem va_D1 {A : Nat → Prop} {a : Nat} {e : va_E} (h : A a) : va_D A [(a, e)] := by
  refine ⟨fun i j p q hi hj _ => ?_, fun k q hk => ?_⟩
  · match i, j, hi, hj with
    | 0, 0, _, _ => rfl
    | 0, j + 1, _, hj => simp at hj
    | i + 1, _, hi, _ => simp at hi
  · match k, hk with
    | 0, hk => cases hk; exact h
    | k + 1, hk => simp at hk
theorem va_at_off {D : va_G} {cl : List vw_C} {q : Nat × va_E} {H H1 : Heap} {a : Nat} (h : va_at D cl q H) (ho : ∀ q : Nat, q ≠ a → H1[q]? = H[q]?) (hne : q.1 ≠ a) : va_at D cl q H1 := h.kept (ho q.1 hne)
theorem RM.putF {d : Dd} {g : Gm} {S : Ms} {H H1 : Heap} (h : RM d g S H) (hg : gOK g) (ho : ∀ q : Nat, q ≠ g.1 → H1[q]? = H[q]?) {k : Nat} (h0 : srt k = 0) {v : Int32} (hP : va_at d.1 vwCl (g.1, .inr (9, (fldM g S).set k (.int v))) H1) : RM d g (pF S k v) H1 := by
  refine ⟨?_, fun j hj => ?_⟩
  · rw [fldM_set g S h0 v] at hP
    exact hP
  · exact va_at_off (h.2 j hj) ho (hg.1 j hj)
theorem RM.putA {d : Dd} {g : Gm} {S S' : Ms} {H H1 : Heap} (h : RM d g S H) (hg : gOK g) {k : Nat} (hk : isR k) (h1 : ∀ q : Nat, q ≠ g.2 k → H1[q]? = H[q]?) (hf : ∀ j, mF S' j = mF S j) (ho : ∀ j, j ≠ k → arM d S' j = arM d S j) (hP : va_at d.1 vwCl (g.2 k, arM d S' k) H1) : RM d g S' H1 := by
  refine ⟨?_, fun j hj => ?_⟩
  · have e : fldM g S' = fldM g S := by
      unfold fldM
      congr 1
      funext j
      simp [fldV, hf j]
    rw [e]
    exact va_at_off h.1 h1 (fun z => hg.1 k hk z.symm)
  · by_cases hjk : j = k
    · subst hjk
      exact hP
    · have := va_at_off (h.2 j hj) h1 (fun z => hjk (hg.2 j k hj hk z))
      rw [ho j hjk]
      exact this
theorem arM_1 {d : Dd} {S : Ms} {k : Nat} (h : srt k = 1) : arM d S k = .inl (d.2 1, lnM k, .inl (mA S k)) := by simp [arM, h]
theorem arM_2 {d : Dd} {S : Ms} {k : Nat} (h : srt k = 2) : arM d S k = .inl (d.2 2, lnM k, .inr (.inl (mL S k))) := by simp [arM, h]
theorem arM_3 {d : Dd} {S : Ms} {k : Nat} (h : srt k = 3) : arM d S k = .inl (d.2 3, lnM k, .inl (mA S k)) := by simp [arM, h]
theorem mA_pA (S : Ms) (k j : Nat) (v : Int32) : mA (pA S k j v) k = upd (mA S k) j v := by funext i; simp [mA, pA, va_up]; rfl
theorem mL_pL (S : Ms) (k j : Nat) (v : Int64) : mL (pL S k j v) k = vp_updL (mL S k) j v := by funext i; simp [mL, pL, va_up]; rfl
theorem arM_pA (d : Dd) (S : Ms) (k j : Nat) (v : Int32) (i : Nat) (h : i ≠ k) : arM d (pA S k j v) i = arM d S i := by
  have e : mA (pA S k j v) i = mA S i := by funext z; simp [mA, pA, va_up, h]
  have e2 : mL (pA S k j v) i = mL S i := rfl
  simp only [arM, e, e2]
theorem arM_pL (d : Dd) (S : Ms) (k j : Nat) (v : Int64) (i : Nat) (h : i ≠ k) : arM d (pL S k j v) i = arM d S i := by
  have e : mL (pL S k j v) i = mL S i := by funext z; simp [mL, pL, va_up, h]
  have e2 : mA (pL S k j v) i = mA S i := rfl
  simp only [arM, e, e2]
/-- a place in a row, or none -/
def ix {ρ : Type} (i : Int32) (n : Nat) (k : Nat → Option ρ) : Option ρ := if i < 0 ∨ n ≤ i.toNatClampNeg then none else k i.toNatClampNeg
theorem ix_some {ρ : Type} {i : Int32} {n : Nat} {k : Nat → Option ρ} {o : ρ} (h : ix i n k = some o) : vp_in i n ∧ k i.toNatClampNeg = some o := by
  unfold ix at h
  split at h
  · cases h
  · next h1 => exact ⟨h1, h⟩
/-- a test, or none -/
def gd {ρ : Type} (b : Bool) (k : Option ρ) : Option ρ := match b with
  | true => k
  | false => none
theorem gd_some {ρ : Type} {b : Bool} {k : Option ρ} {o : ρ} (h : gd b k = some o) : b = true ∧ k = some o := by
  cases b with
  | true => exact ⟨rfl, h⟩
  | false => cases h
def is01 (v : Int32) : Bool := v == 0 || v == 1
theorem is01_or {v : Int32} (h : is01 v = true) : v = 0 ∨ v = 1 := by simpa [is01] using h
theorem nar01 {v : Int32} (h : is01 v = true) : narrow .boolean (.int v) = .int v := by
  rcases is01_or h with rfl | rfl <;> rfl
theorem fit01 {v : Int32} (h : is01 v = true) : fits .boolean (.int v) = true := by
  rcases is01_or h with rfl | rfl <;> rfl
/-- a field of the reference in its pool: its word is there -/
def FL (idx k : Nat) : Prop := k < 108 ∧ (TX9 k).1 = RX9 ∧ Cond.fieldLink RX9 idx RX9 (TX9 k).2.1 (TX9 k).2.2.1 ∈ lwg
/-- what a walk of one of the reference's methods stands on -/
def CM (p : Program) (s : State) (m : MethodId) (args : Array Value) (meth : Method) (c : Code) (d : Dd) (g : Gm) (cc : ByteArray) (nL : Nat) (rt : Option FieldType) : Prop :=
  p.tables.exec = Jvm.exec ∧ c.code = cc ∧ c.maxLocals = nL ∧ s.vm.findClass RX9 = some m.cls ∧ (∀ w ∈ lwg, w.before args s = true) ∧ va_K d.1 vwCl (dT d) s ∧ gOK g ∧ meth.sig.returnType = rt ∧ meth.locks = false
theorem lwg_all {ws : List Cond} (ps : List Nat) (hp : ws = ps.filterMap (fun i => lw_tbl[i]?)) (h : ws.all goodWord = true) : ∀ w ∈ ws, w ∈ lwg := by
  intro w hw
  have h1 := List.all_eq_true.mp h w hw
  rw [hp] at hw
  obtain ⟨i, -, hi⟩ := List.mem_filterMap.mp hw
  exact lwg_in i hi h1
theorem i_X0 : ∀ w ∈ u_ws RX0 TX0 8, w ∈ lwg := lwg_all [349, 351, 353, 355, 357, 359, 361, 363] (by decide +kernel) (by decide +kernel)
theorem i_X1 : ∀ w ∈ u_ws RX1 TX1 6, w ∈ lwg := lwg_all [391, 393, 395, 397, 399, 401] (by decide +kernel) (by decide +kernel)
theorem i_X2 : ∀ w ∈ u_ws RX2 TX2 17, w ∈ lwg := lwg_all [426, 428, 430, 432, 434, 436, 438, 440, 442, 444, 446, 448, 450, 452, 454, 456, 458] (by decide +kernel) (by decide +kernel)
theorem i_X3 : ∀ w ∈ u_ws RX3 TX3 6, w ∈ lwg := lwg_all [259, 261, 263, 265, 267, 269] (by decide +kernel) (by decide +kernel)
theorem i_X4 : ∀ w ∈ u_ws RX4 TX4 12, w ∈ lwg := lwg_all [307, 309, 311, 313, 315, 317, 319, 321, 323, 325, 327, 329] (by decide +kernel) (by decide +kernel)
theorem i_X5 : ∀ w ∈ u_ws RX5 TX5 14, w ∈ lwg := lwg_all [510, 512, 514, 516, 518, 520, 522, 524, 526, 528, 530, 532, 534, 536] (by decide +kernel) (by decide +kernel)
theorem i_X6 : ∀ w ∈ u_ws RX6 TX6 7, w ∈ lwg := lwg_all [227, 229, 231, 233, 235, 237, 239] (by decide +kernel) (by decide +kernel)
theorem i_X7 : ∀ w ∈ u_ws RX7 TX7 14, w ∈ lwg := lwg_all [838, 840, 842, 844, 846, 848, 850, 852, 854, 856, 858, 860, 862, 864] (by decide +kernel) (by decide +kernel)
theorem i_X8 : ∀ w ∈ u_ws RX8 TX8 13, w ∈ lwg := lwg_all [552, 554, 556, 558, 560, 562, 564, 566, 568, 570, 572, 574, 576] (by decide +kernel) (by decide +kernel)
theorem i_X9 : ∀ w ∈ u_ws RX9 TX9 108, w ∈ lwg := lwg_all [1517, 1519, 1521, 1523, 1525, 1527, 1529, 1531, 1533, 1535, 1537, 1539, 1541, 1543, 1545, 1547, 1549, 1551, 1553, 1555, 1557, 1559, 1561, 1563, 1565, 1567, 1569, 1571, 1573, 1575, 1577, 1579, 1581, 1583, 1585, 1587, 1589, 1591, 1593, 1595, 1597, 1599, 1601, 1603, 1605, 1607, 1609, 1611, 1613, 1615, 1617, 1619, 1621, 1623, 1625, 1627, 1629, 1631, 1633, 1635, 1637, 1639, 1641, 1643, 1645, 1647, 1649, 1651, 1653, 1655, 1657, 1659, 1661, 1663, 1665, 1667, 1669, 1671, 1673, 1675, 1677, 1679, 1681, 1683, 1685, 1687, 1689, 1691, 1693, 1695, 1697, 1699, 1701, 1703, 1705, 1707, 1709, 1711, 1713, 1715, 1717, 1719, 1721, 1723, 1725, 1727, 1729, 1731] (by decide +kernel) (by decide +kernel)
