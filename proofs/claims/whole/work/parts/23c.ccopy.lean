
section RCP
variable {p : Program} {l : Launch} {e : Env} {R : Room} {s : State} {m : MethodId} {args : Array Value} {below : List Frame} {meth : Method} {c : Code} {H : Heap} {locs : List Loc} {cells slots : Nat} {Q : State → Prop}
variable {pc : Nat} {ls : Array Slot} {rest : List Value} {A : Nat → Prop} {a : Nat} {H0 : Heap}
theorem raw_copyi {cc : ByteArray} (hexec : p.tables.exec = Jvm.exec) (hb : c.code = cc) (hml : c.maxLocals = ls.size) {own : String} {index : Nat} (hown : s.vm.findClass own = some m.cls) (hlink : (Cond.methodLink own index arraycopyName).before args s = true) (hnat : (Cond.native arraycopyName).before args s = true) (hstat : (Cond.static arraycopyName).before args s = true) (hini : (Cond.initialized "java/lang/System").before args s = true)
    {a0 : Nat} {c0 c1 : ClassId} {n0 n1 : Nat} {f g : Nat → Int32} {ty : FieldType} (ha0 : H[a0]? = some (vp_cell c0 (n0, .inl f))) (ha1 : H[a]? = some (vp_cell c1 (n1, .inl g))) (ht0 : ArrOfT s c0 ty) (ht1 : ArrOfT s c1 ty) (hprim : refKind ty = false)
    {sp dp n : Int32} (h1 : ¬ sp < 0) (h2 : ¬ dp < 0) (h3 : ¬ n < 0) (h4 : sp.toNatClampNeg + n.toNatClampNeg ≤ n0) (h5 : dp.toNatClampNeg + n.toNatClampNeg ≤ n1) (hfit : ∀ i, i < n.toNatClampNeg → fits ty (.int (f (sp.toNatClampNeg + i))) = true)
    (hframes : 1 ≤ R.frames) (hlocals : (rest.map fun v => v.category).sum + (nativeFrameWords "java/lang/System" "arraycopy" 5 + 11) ≤ R.locals) (hdg : decode cc pc = .ok (.invokestatic index, 3))
    (kk : ∀ (H1 : Heap) (locs1 : List Loc), H1[a]? = some (vp_cell c1 (n1, .inl (va_cpy f g sp.toNatClampNeg dp.toNatClampNeg n.toNatClampNeg))) → H1.size = H.size → (∀ q : Nat, q ≠ a → H1[q]? = H[q]?) → (∀ z ∈ locs1, z ∈ locs ∨ z.base = a) → W p l e R s m args below meth c H1 locs1 cells slots Q (F0 m (pc + 3) ls rest)) : W p l e R s m args below meth c H locs cells slots Q (F0 m pc ls (.int n :: .int dp :: .ref a :: .int sp :: .ref a0 :: rest)) := by
  have nn : ∀ z : Int32, ¬ z < 0 → z.toInt = (z.toNatClampNeg : Int) := by
    intro z hz
    have hz0 : (0 : Int) ≤ z.toInt := by
      have := Int32.not_lt.mp hz
      simpa using Int32.le_iff_toInt_le.mp this
    show z.toInt = ((z.toInt.toNat : Nat) : Int)
    omega
  intro T hT X
  have hc0 : H[a0]? = some (vp_cell c0 (n0, .inl f)) := ha0
  have hc1 : H[a]? = some (vp_cell c1 (n1, .inl g)) := ha1
  obtain ⟨-, k0, hk0, cm0, hkk0⟩ := ht0 n0 (fun j => .int (f j))
  obtain ⟨-, k1, hk1, cm1, hkk1⟩ := ht1 n1 (fun j => .int (g j))
  obtain ⟨vm', X', step⟩ := X.arraycopy hexec hown hlink hnat hstat hini (src := a0) (dst := a) (cs := vp_cell c0 (n0, .inl f)) (cd := vp_cell c1 (n1, .inl g)) (srcPos := sp) (destPos := dp) (n := n) (by rw [hT]; exact hc0) (by rw [hT]; exact hc1)
    (fun _ h => by cases h) (fun _ h => by cases h) (fun h => by cases h) (fun h => by cases h) hk0 hk1 hkk0 hkk1 (by simp [hprim]) h1 h2 h3
    (by rw [nn sp h1, nn n h3]; show ¬ _ > ((arrV c0 n0 (fun j => .int (f j))).slots.size : Int); rw [arrV_size]; omega)
    (by rw [nn dp h2, nn n h3]; show ¬ _ > ((arrV c1 n1 (fun j => .int (g j))).slots.size : Int); rw [arrV_size]; omega)
    (fun vm₁ _ i hi => by
      have e : (vp_cell c0 (n0, .inl f)).slots.getD (sp.toNatClampNeg + i) .null = .int (f (sp.toNatClampNeg + i)) := by
        show (arrV c0 n0 (fun j => .int (f j))).slots.getD _ _ = _
        rw [Array.getD_eq_getD_getElem?, arrV_read _ _ (by omega)]
        rfl
      refine ⟨?_, ?_⟩
      · rw [e]
        exact hfit i hi
      · rw [e]
        exact trivial)
    (g := F0 m pc ls (.int n :: .int dp :: .ref a :: .int sp :: .ref a0 :: rest)) rfl (by rw [hml]) (rest := rest) rfl (by rw [hb]; exact hdg) hframes (by show 2 * 0 + _ + _ ≤ _; omega)
  have e1 : copied (vp_cell c0 (n0, .inl f)) (vp_cell c1 (n1, .inl g)) sp dp n = vp_cell c1 (n1, .inl (va_cpy f g sp.toNatClampNeg dp.toNatClampNeg n.toNatClampNeg)) := va_copied (fun z => .int z) c0 c1 f g h4
  rw [e1] at X' step
  have hl : a < H.size := (Array.getElem?_eq_some_iff.mp hc1).1
  have hheap : ((T.setVm vm').setCell a (vp_cell c1 (n1, .inl (va_cpy f g sp.toNatClampNeg dp.toNatClampNeg n.toNatClampNeg)))).heap = H.setIfInBounds a (vp_cell c1 (n1, .inl (va_cpy f g sp.toNatClampNeg dp.toNatClampNeg n.toNatClampNeg))) := by rw [← hT]; rfl
  have oq : ∀ q : Nat, q ≠ a → (H.setIfInBounds a (vp_cell c1 (n1, .inl (va_cpy f g sp.toNatClampNeg dp.toNatClampNeg n.toNatClampNeg))))[q]? = H[q]? := fun q hq => by simp [Array.getElem?_setIfInBounds, Ne.symm hq]
  obtain ⟨t, a1, b1⟩ := kk _ _ (show (H.setIfInBounds a _)[a]? = some _ by simp [Array.getElem?_setIfInBounds, hl]) (by simp) oq (fun z hz => by
      rcases List.mem_append.mp hz with h | h
      · exact Or.inl h
      · obtain ⟨z2, -, hz2⟩ := List.mem_map.mp h
        rw [← hz2]
        exact Or.inr rfl) _ hheap X'
  exact ⟨t, step t a1, b1⟩
end RCP

section RCP
variable {p : Program} {l : Launch} {e : Env} {R : Room} {s : State} {m : MethodId} {args : Array Value} {below : List Frame} {meth : Method} {c : Code} {H : Heap} {locs : List Loc} {cells slots : Nat} {Q : State → Prop}
variable {pc : Nat} {ls : Array Slot} {rest : List Value} {A : Nat → Prop} {a : Nat} {H0 : Heap}
theorem raw_copyl {cc : ByteArray} (hexec : p.tables.exec = Jvm.exec) (hb : c.code = cc) (hml : c.maxLocals = ls.size) {own : String} {index : Nat} (hown : s.vm.findClass own = some m.cls) (hlink : (Cond.methodLink own index arraycopyName).before args s = true) (hnat : (Cond.native arraycopyName).before args s = true) (hstat : (Cond.static arraycopyName).before args s = true) (hini : (Cond.initialized "java/lang/System").before args s = true)
    {a0 : Nat} {c0 c1 : ClassId} {n0 n1 : Nat} {f g : Nat → Int64} {ty : FieldType} (ha0 : H[a0]? = some (vp_cell c0 (n0, .inr (.inl f)))) (ha1 : H[a]? = some (vp_cell c1 (n1, .inr (.inl g)))) (ht0 : ArrOfT s c0 ty) (ht1 : ArrOfT s c1 ty) (hprim : refKind ty = false)
    {sp dp n : Int32} (h1 : ¬ sp < 0) (h2 : ¬ dp < 0) (h3 : ¬ n < 0) (h4 : sp.toNatClampNeg + n.toNatClampNeg ≤ n0) (h5 : dp.toNatClampNeg + n.toNatClampNeg ≤ n1) (hfit : ∀ i, i < n.toNatClampNeg → fits ty (.long (f (sp.toNatClampNeg + i))) = true)
    (hframes : 1 ≤ R.frames) (hlocals : (rest.map fun v => v.category).sum + (nativeFrameWords "java/lang/System" "arraycopy" 5 + 11) ≤ R.locals) (hdg : decode cc pc = .ok (.invokestatic index, 3))
    (kk : ∀ (H1 : Heap) (locs1 : List Loc), H1[a]? = some (vp_cell c1 (n1, .inr (.inl (va_cpy f g sp.toNatClampNeg dp.toNatClampNeg n.toNatClampNeg)))) → H1.size = H.size → (∀ q : Nat, q ≠ a → H1[q]? = H[q]?) → (∀ z ∈ locs1, z ∈ locs ∨ z.base = a) → W p l e R s m args below meth c H1 locs1 cells slots Q (F0 m (pc + 3) ls rest)) : W p l e R s m args below meth c H locs cells slots Q (F0 m pc ls (.int n :: .int dp :: .ref a :: .int sp :: .ref a0 :: rest)) := by
  have nn : ∀ z : Int32, ¬ z < 0 → z.toInt = (z.toNatClampNeg : Int) := by
    intro z hz
    have hz0 : (0 : Int) ≤ z.toInt := by
      have := Int32.not_lt.mp hz
      simpa using Int32.le_iff_toInt_le.mp this
    show z.toInt = ((z.toInt.toNat : Nat) : Int)
    omega
  intro T hT X
  have hc0 : H[a0]? = some (vp_cell c0 (n0, .inr (.inl f))) := ha0
  have hc1 : H[a]? = some (vp_cell c1 (n1, .inr (.inl g))) := ha1
  obtain ⟨-, k0, hk0, cm0, hkk0⟩ := ht0 n0 (fun j => .long (f j))
  obtain ⟨-, k1, hk1, cm1, hkk1⟩ := ht1 n1 (fun j => .long (g j))
  obtain ⟨vm', X', step⟩ := X.arraycopy hexec hown hlink hnat hstat hini (src := a0) (dst := a) (cs := vp_cell c0 (n0, .inr (.inl f))) (cd := vp_cell c1 (n1, .inr (.inl g))) (srcPos := sp) (destPos := dp) (n := n) (by rw [hT]; exact hc0) (by rw [hT]; exact hc1)
    (fun _ h => by cases h) (fun _ h => by cases h) (fun h => by cases h) (fun h => by cases h) hk0 hk1 hkk0 hkk1 (by simp [hprim]) h1 h2 h3
    (by rw [nn sp h1, nn n h3]; show ¬ _ > ((arrV c0 n0 (fun j => .long (f j))).slots.size : Int); rw [arrV_size]; omega)
    (by rw [nn dp h2, nn n h3]; show ¬ _ > ((arrV c1 n1 (fun j => .long (g j))).slots.size : Int); rw [arrV_size]; omega)
    (fun vm₁ _ i hi => by
      have e : (vp_cell c0 (n0, .inr (.inl f))).slots.getD (sp.toNatClampNeg + i) .null = .long (f (sp.toNatClampNeg + i)) := by
        show (arrV c0 n0 (fun j => .long (f j))).slots.getD _ _ = _
        rw [Array.getD_eq_getD_getElem?, arrV_read _ _ (by omega)]
        rfl
      refine ⟨?_, ?_⟩
      · rw [e]
        exact hfit i hi
      · rw [e]
        exact trivial)
    (g := F0 m pc ls (.int n :: .int dp :: .ref a :: .int sp :: .ref a0 :: rest)) rfl (by rw [hml]) (rest := rest) rfl (by rw [hb]; exact hdg) hframes (by show 2 * 0 + _ + _ ≤ _; omega)
  have e1 : copied (vp_cell c0 (n0, .inr (.inl f))) (vp_cell c1 (n1, .inr (.inl g))) sp dp n = vp_cell c1 (n1, .inr (.inl (va_cpy f g sp.toNatClampNeg dp.toNatClampNeg n.toNatClampNeg))) := va_copied (fun z => .long z) c0 c1 f g h4
  rw [e1] at X' step
  have hl : a < H.size := (Array.getElem?_eq_some_iff.mp hc1).1
  have hheap : ((T.setVm vm').setCell a (vp_cell c1 (n1, .inr (.inl (va_cpy f g sp.toNatClampNeg dp.toNatClampNeg n.toNatClampNeg))))).heap = H.setIfInBounds a (vp_cell c1 (n1, .inr (.inl (va_cpy f g sp.toNatClampNeg dp.toNatClampNeg n.toNatClampNeg)))) := by rw [← hT]; rfl
  have oq : ∀ q : Nat, q ≠ a → (H.setIfInBounds a (vp_cell c1 (n1, .inr (.inl (va_cpy f g sp.toNatClampNeg dp.toNatClampNeg n.toNatClampNeg)))))[q]? = H[q]? := fun q hq => by simp [Array.getElem?_setIfInBounds, Ne.symm hq]
  obtain ⟨t, a1, b1⟩ := kk _ _ (show (H.setIfInBounds a _)[a]? = some _ by simp [Array.getElem?_setIfInBounds, hl]) (by simp) oq (fun z hz => by
      rcases List.mem_append.mp hz with h | h
      · exact Or.inl h
      · obtain ⟨z2, -, hz2⟩ := List.mem_map.mp h
        rw [← hz2]
        exact Or.inr rfl) _ hheap X'
  exact ⟨t, step t a1, b1⟩
end RCP

/-- a stretch of ints, of longs is copied -/
def wCp (M : Cm) (a b sp dp n : Nat) : Cm := (va_up M.1 b (va_cpy (M.1 a) (M.1 b) sp dp n), M.2)
def wCpL (M : Cm) (a b sp dp n : Nat) : Cm := (M.1, va_up M.2.1 b (va_cpy (M.2.1 a) (M.2.1 b) sp dp n), M.2.2)
def cpok (sp dp n : Int32) (n0 n1 : Nat) : Bool := decide (¬ sp < 0 ∧ ¬ dp < 0 ∧ ¬ n < 0 ∧ sp.toNatClampNeg + n.toNatClampNeg ≤ n0 ∧ dp.toNatClampNeg + n.toNatClampNeg ≤ n1)
theorem wnat : Cond.native arraycopyName ∈ lwg := lwg_in 912 (by decide +kernel) (by decide +kernel)
theorem wnst : Cond.static arraycopyName ∈ lwg := lwg_in 911 (by decide +kernel) (by decide +kernel)
theorem wnin : Cond.initialized "java/lang/System" ∈ lwg := lwg_in 142 (by decide +kernel) (by decide +kernel)
def cpW : Nat := nativeFrameWords "java/lang/System" "arraycopy" 5 + 11
theorem cpW_le : cpW ≤ 30 := by decide +kernel
section CCP
variable {p : Program} {l : Launch} {e : Env} {R : Room} {s : State} {m : MethodId} {args : Array Value} {below : List Frame} {meth : Method} {c0 : Code} {H : Heap} {locs : List Loc} {cells slots : Nat} {Q : State → Prop}
variable {cc : ByteArray} {nL : Nat} {rt : Option FieldType} {x : Xc} {K0 K : Ka} {M : Cm} {own : String} {pc : Nat} {ls : Array Slot} {rest : List Value}

theorem cr_copyi (CX : CC p s m args meth c0 x K0 own cc nL rt) (hR : RC x K M H) (hL : KLe K0 K) (hS : va_S (AC K0) s.heap H locs) {a b : Nat} (hk1 : (kd K a == 22) = true) (hk2 : (kd K b == 22) = true) {sp dp n : Int32} (hq : cpok sp dp n (le K a) (le K b) = true) {idx : Nat} (hw : Cond.methodLink own idx arraycopyName ∈ lwg) (hsz : ls.size = nL) (hfr : 1 ≤ R.frames) (hlo : 38 ≤ R.locals) (hcat : (rest.map fun v => v.category).sum ≤ 8) (hdg : decode cc pc = .ok (.invokestatic idx, 3))
    (kk : ∀ (H1 : Heap) (locs1 : List Loc), RC x K (wCp M a b sp.toNatClampNeg dp.toNatClampNeg n.toNatClampNeg) H1 → va_S (AC K0) s.heap H1 locs1 → W p l e R s m args below meth c0 H1 locs1 cells slots Q (F0 m (pc + 3) ls rest)) : W p l e R s m args below meth c0 H locs cells slots Q (F0 m pc ls (.int n :: .int dp :: .ref b :: .int sp :: .ref a :: rest)) := by
  obtain ⟨hx, hb, hml, hown, hts, hE, hB, hr, hlk⟩ := CX
  have hk1 : kd K a = 22 := by simpa using hk1
  have hk2 : kd K b = 22 := by simpa using hk2
  have hb0 : kd K b ≠ 0 := by omega
  have ha := (hR.2.2 a (by omega)).2
  have hbb := (hR.2.2 b hb0).2
  rw [cel_i hk1] at ha
  rw [cel_i hk2] at hbb
  obtain ⟨q1, q2, q3, q4, q5⟩ : ¬ sp < 0 ∧ ¬ dp < 0 ∧ ¬ n < 0 ∧ sp.toNatClampNeg + n.toNatClampNeg ≤ le K a ∧ dp.toNatClampNeg + n.toNatClampNeg ≤ le K b := of_decide_eq_true hq
  have hcp := cpW_le
  refine raw_copyi hx hb (hml.trans hsz.symm) hown (hts _ hw) (hts _ wnat) (hts _ wnst) (hts _ wnin) ha hbb (hE.1.2 1 _ rfl).1 (hE.1.2 1 _ rfl).1 rfl q1 q2 q3 q4 q5 (fun _ _ => rfl) hfr (by unfold cpW at hcp; omega) hdg (fun H1 locs1 e1 e2 e3 e4 => ?_)
  refine kk H1 _ (hR.put hb0 e2 e3 (fun z hz => cel_same ?_ ?_ rfl) ?_) ⟨by rw [e2]; exact hS.1, fun q g1 g2 => ?_, fun z hz => ?_⟩
  · funext i; simp [cI, wCp, va_up, hz]
  · rfl
  · rw [cel_i hk2]
    have e : cI (wCp M a b sp.toNatClampNeg dp.toNatClampNeg n.toNatClampNeg) b = va_cpy (cI M a) (cI M b) sp.toNatClampNeg dp.toNatClampNeg n.toNatClampNeg := by
      funext i
      simp [cI, wCp, va_up]
      rfl
    rw [e]
    exact e1
  · rw [e3 q (fun z => g2 (by rw [z]; exact hL.2.2 b hb0))]
    exact hS.2.1 q g1 g2
  · rcases e4 z hz with h | h
    · exact hS.2.2 z h
    · rw [h]
      exact hL.2.2 b hb0

theorem cr_copyl (CX : CC p s m args meth c0 x K0 own cc nL rt) (hR : RC x K M H) (hL : KLe K0 K) (hS : va_S (AC K0) s.heap H locs) {a b : Nat} (hk1 : (kd K a == 23) = true) (hk2 : (kd K b == 23) = true) {sp dp n : Int32} (hq : cpok sp dp n (le K a) (le K b) = true) {idx : Nat} (hw : Cond.methodLink own idx arraycopyName ∈ lwg) (hsz : ls.size = nL) (hfr : 1 ≤ R.frames) (hlo : 38 ≤ R.locals) (hcat : (rest.map fun v => v.category).sum ≤ 8) (hdg : decode cc pc = .ok (.invokestatic idx, 3))
    (kk : ∀ (H1 : Heap) (locs1 : List Loc), RC x K (wCpL M a b sp.toNatClampNeg dp.toNatClampNeg n.toNatClampNeg) H1 → va_S (AC K0) s.heap H1 locs1 → W p l e R s m args below meth c0 H1 locs1 cells slots Q (F0 m (pc + 3) ls rest)) : W p l e R s m args below meth c0 H locs cells slots Q (F0 m pc ls (.int n :: .int dp :: .ref b :: .int sp :: .ref a :: rest)) := by
  obtain ⟨hx, hb, hml, hown, hts, hE, hB, hr, hlk⟩ := CX
  have hk1 : kd K a = 23 := by simpa using hk1
  have hk2 : kd K b = 23 := by simpa using hk2
  have hb0 : kd K b ≠ 0 := by omega
  have ha := (hR.2.2 a (by omega)).2
  have hbb := (hR.2.2 b hb0).2
  rw [cel_l hk1] at ha
  rw [cel_l hk2] at hbb
  obtain ⟨q1, q2, q3, q4, q5⟩ : ¬ sp < 0 ∧ ¬ dp < 0 ∧ ¬ n < 0 ∧ sp.toNatClampNeg + n.toNatClampNeg ≤ le K a ∧ dp.toNatClampNeg + n.toNatClampNeg ≤ le K b := of_decide_eq_true hq
  have hcp := cpW_le
  refine raw_copyl hx hb (hml.trans hsz.symm) hown (hts _ hw) (hts _ wnat) (hts _ wnst) (hts _ wnin) ha hbb (hE.1.2 2 _ rfl).1 (hE.1.2 2 _ rfl).1 rfl q1 q2 q3 q4 q5 (fun _ _ => rfl) hfr (by unfold cpW at hcp; omega) hdg (fun H1 locs1 e1 e2 e3 e4 => ?_)
  refine kk H1 _ (hR.put hb0 e2 e3 (fun z hz => cel_same ?_ ?_ rfl) ?_) ⟨by rw [e2]; exact hS.1, fun q g1 g2 => ?_, fun z hz => ?_⟩
  · rfl
  · funext i; simp [cL, wCpL, va_up, hz]
  · rw [cel_l hk2]
    have e : cL (wCpL M a b sp.toNatClampNeg dp.toNatClampNeg n.toNatClampNeg) b = va_cpy (cL M a) (cL M b) sp.toNatClampNeg dp.toNatClampNeg n.toNatClampNeg := by
      funext i
      simp [cL, wCpL, va_up]
      rfl
    rw [e]
    exact e1
  · rw [e3 q (fun z => g2 (by rw [z]; exact hL.2.2 b hb0))]
    exact hS.2.1 q g1 g2
  · rcases e4 z hz with h | h
    · exact hS.2.2 z h
    · rw [h]
      exact hL.2.2 b hb0
theorem wmi : Cond.initialized "java/lang/Math" ∈ lwg := lwg_in 133 (by decide +kernel) (by decide +kernel)
theorem wms_minI : Cond.static Lib.Math.min.name ∈ lwg := lwg_in 468 (by decide +kernel) (by decide +kernel)
theorem wmc_minI : Cond.code Lib.Math.min.name Lib.Math.min.code 2 (some .int) ∈ lwg := lwg_in 469 (by decide +kernel) (by decide +kernel)

theorem cr_minI (CX : CC p s m args meth c0 x K0 own cc nL rt) {idx : Nat} (hw : Cond.methodLink own idx Lib.Math.min.name ∈ lwg) (hsz : ls.size = nL) (hfr : 1 ≤ R.frames) (hlo : 23 ≤ R.locals) (hcat : (rest.map fun v => v.category).sum ≤ 8) (hcs : cells ≤ R.cells ∧ slots ≤ R.slots) {x1 y1 : Int32} (hdg : decode cc pc = .ok (.invokestatic idx, 3))
    (kk : W p l e R s m args below meth c0 H locs cells slots Q (F0 m (pc + 3) ls (.int (if y1 < x1 then y1 else x1) :: rest))) : W p l e R s m args below meth c0 H locs cells slots Q (F0 m pc ls (.int y1 :: .int x1 :: rest)) := by
  obtain ⟨hx, hb, hml, hown, hts, hE, hB, hr, hlk⟩ := CX
  exact va_mmin hx hb (hml.trans hsz.symm) hown (hts _ hw) (hts _ wms_minI) (hts _ wmi) (hts _ wmc_minI) hfr (by omega) hcs.1 hcs.2 hdg kk
theorem wms_maxI : Cond.static Lib.Math.max.name ∈ lwg := lwg_in 632 (by decide +kernel) (by decide +kernel)
theorem wmc_maxI : Cond.code Lib.Math.max.name Lib.Math.max.code 2 (some .int) ∈ lwg := lwg_in 633 (by decide +kernel) (by decide +kernel)

theorem cr_maxI (CX : CC p s m args meth c0 x K0 own cc nL rt) {idx : Nat} (hw : Cond.methodLink own idx Lib.Math.max.name ∈ lwg) (hsz : ls.size = nL) (hfr : 1 ≤ R.frames) (hlo : 23 ≤ R.locals) (hcat : (rest.map fun v => v.category).sum ≤ 8) (hcs : cells ≤ R.cells ∧ slots ≤ R.slots) {x1 y1 : Int32} (hdg : decode cc pc = .ok (.invokestatic idx, 3))
    (kk : W p l e R s m args below meth c0 H locs cells slots Q (F0 m (pc + 3) ls (.int (if x1 < y1 then y1 else x1) :: rest))) : W p l e R s m args below meth c0 H locs cells slots Q (F0 m pc ls (.int y1 :: .int x1 :: rest)) := by
  obtain ⟨hx, hb, hml, hown, hts, hE, hB, hr, hlk⟩ := CX
  exact va_mmax hx hb (hml.trans hsz.symm) hown (hts _ hw) (hts _ wms_maxI) (hts _ wmi) (hts _ wmc_maxI) hfr (by omega) hcs.1 hcs.2 hdg kk
theorem wms_minL : Cond.static Lib.MathLoose.min_long.x ∈ lwg := lwg_in 1271 (by decide +kernel) (by decide +kernel)
theorem wmc_minL : Cond.code Lib.MathLoose.min_long.x Lib.MathLoose.min_long.code 4 (some .long) ∈ lwg := lwg_in 1272 (by decide +kernel) (by decide +kernel)

theorem cr_minL (CX : CC p s m args meth c0 x K0 own cc nL rt) {idx : Nat} (hw : Cond.methodLink own idx Lib.MathLoose.min_long.x ∈ lwg) (hsz : ls.size = nL) (hfr : 1 ≤ R.frames) (hlo : 23 ≤ R.locals) (hcat : (rest.map fun v => v.category).sum ≤ 8) (hcs : cells ≤ R.cells ∧ slots ≤ R.slots) {x1 y1 : Int64} (hdg : decode cc pc = .ok (.invokestatic idx, 3))
    (kk : W p l e R s m args below meth c0 H locs cells slots Q (F0 m (pc + 3) ls (.long (if y1 < x1 then y1 else x1) :: rest))) : W p l e R s m args below meth c0 H locs cells slots Q (F0 m pc ls (.long y1 :: .long x1 :: rest)) := by
  obtain ⟨hx, hb, hml, hown, hts, hE, hB, hr, hlk⟩ := CX
  exact va_mmin_long hx hb (hml.trans hsz.symm) hown (hts _ hw) (hts _ wms_minL) (hts _ wmi) (hts _ wmc_minL) hfr (by omega) hcs.1 hcs.2 hdg kk
theorem wms_maxL : Cond.static Lib.MathLoose.max_long.x ∈ lwg := lwg_in 1274 (by decide +kernel) (by decide +kernel)
theorem wmc_maxL : Cond.code Lib.MathLoose.max_long.x Lib.MathLoose.max_long.code 4 (some .long) ∈ lwg := lwg_in 1275 (by decide +kernel) (by decide +kernel)

theorem cr_maxL (CX : CC p s m args meth c0 x K0 own cc nL rt) {idx : Nat} (hw : Cond.methodLink own idx Lib.MathLoose.max_long.x ∈ lwg) (hsz : ls.size = nL) (hfr : 1 ≤ R.frames) (hlo : 23 ≤ R.locals) (hcat : (rest.map fun v => v.category).sum ≤ 8) (hcs : cells ≤ R.cells ∧ slots ≤ R.slots) {x1 y1 : Int64} (hdg : decode cc pc = .ok (.invokestatic idx, 3))
    (kk : W p l e R s m args below meth c0 H locs cells slots Q (F0 m (pc + 3) ls (.long (if y1 < x1 then x1 else y1) :: rest))) : W p l e R s m args below meth c0 H locs cells slots Q (F0 m pc ls (.long y1 :: .long x1 :: rest)) := by
  obtain ⟨hx, hb, hml, hown, hts, hE, hB, hr, hlk⟩ := CX
  exact va_mmax_long hx hb (hml.trans hsz.symm) hown (hts _ hw) (hts _ wms_maxL) (hts _ wmi) (hts _ wmc_maxL) hfr (by omega) hcs.1 hcs.2 hdg kk
end CCP
