
/-- what a method of the reference says: void, an int, a long -/
def QV (d : Dd) (g : Gm) (S' : Ms) : Array Value → State → Outcome → State → Prop := va_Qv (fun _ : Unit => True) (fun _ t => RM d g S' t.heap) (AM g)
def QI (d : Dd) (g : Gm) (o : Int32 × Ms) : Array Value → State → Outcome → State → Prop := va_Qi (fun (x : Int32) (_ : Unit) => x = o.1) (fun _ t => RM d g o.2 t.heap) (AM g)
def QL (d : Dd) (g : Gm) (o : Int64 × Ms) : Array Value → State → Outcome → State → Prop := va_Ql (fun (x : Int64) (_ : Unit) => x = o.1) (fun _ t => RM d g o.2 t.heap) (AM g)
def PM (d : Dd) (g : Gm) (S : Ms) (av : List Value) : Array Value → State → Prop := va_Pc av (fun U => RM d g S U.heap ∧ va_K d.1 vwCl (dT d) U ∧ gOK g)
abbrev rmM (fr lo : Nat) : Room := { frames := fr, cells := 0, slots := 0, locals := lo }
abbrev wsM (y : MethodName) (bytes : ByteArray) (nL : Nat) (rt : Option FieldType) : List Cond := Cond.code y bytes nL rt :: lwg
def MtV (l : Launch) (d : Dd) (g : Gm) (y : MethodName) (bytes : ByteArray) (nL : Nat) (fr lo : Nat) (av : List Value) (S S' : Ms) : Prop := Met l y (wsM y bytes nL none) (rmM fr lo) (PM d g S av) (QV d g S') 0 0 (AM g)
def MtI (l : Launch) (d : Dd) (g : Gm) (y : MethodName) (bytes : ByteArray) (nL : Nat) (rt : Option FieldType) (fr lo : Nat) (av : List Value) (S : Ms) (o : Int32 × Ms) : Prop := Met l y (wsM y bytes nL rt) (rmM fr lo) (PM d g S av) (QI d g o) 0 0 (AM g)
def MtL (l : Launch) (d : Dd) (g : Gm) (y : MethodName) (bytes : ByteArray) (nL : Nat) (fr lo : Nat) (av : List Value) (S : Ms) (o : Int64 × Ms) : Prop := Met l y (wsM y bytes nL (some .long)) (rmM fr lo) (PM d g S av) (QL d g o) 0 0 (AM g)
theorem PM_blind {d : Dd} {g : Gm} {S : Ms} {av : List Value} : FrameBlind (PM d g S av) := fun a U gg mk q => ⟨q.1, q.2.1, va_K.moved (u := U) (U := U.calling gg mk a) (Vm.Alike.refl U.vm) q.2.2.1, q.2.2.2⟩
/-- the words of a call on the reference itself -/
def WV (idx : Nat) (y : MethodName) (bytes : ByteArray) (nL : Nat) (rt : Option FieldType) (n : Nat) : Prop :=
  Cond.methodLink RX9 idx y ∈ lwg ∧ Cond.instanceMethod y ∈ lwg ∧ Cond.selects RX9 y y ∈ lwg ∧ Cond.initialized RX9 ∈ lwg ∧ Cond.code y bytes nL rt ∈ lwg ∧ (y.cls = RX9 ∧ y.cls ≠ "java/lang/invoke/MethodHandle" ∧ y.cls ≠ "java/lang/invoke/VarHandle" ∧ (parseMethodDescriptor y.desc).map (fun d => d.parameters.length) = some n)
def WS (idx : Nat) (y : MethodName) (bytes : ByteArray) (nL : Nat) (rt : Option FieldType) (n : Nat) : Prop :=
  Cond.methodLink RX9 idx y ∈ lwg ∧ Cond.static y ∈ lwg ∧ Cond.initialized RX9 ∈ lwg ∧ Cond.code y bytes nL rt ∈ lwg ∧ (y.cls = RX9 ∧ y.cls ≠ "java/lang/invoke/MethodHandle" ∧ y.cls ≠ "java/lang/invoke/VarHandle" ∧ (parseMethodDescriptor y.desc).map (fun d => d.parameters.length) = some n)
section MROWS
variable {p : Program} {l : Launch} {e : Env} {R : Room} {s : State} {m : MethodId} {args : Array Value} {below : List Frame} {meth : Method} {c : Code} {H : Heap} {locs : List Loc} {cells slots : Nat} {Q : State → Prop}
variable {cc : ByteArray} {nL : Nat} {rt : Option FieldType} {d : Dd} {g : Gm} {S S' : Ms} {pc : Nat} {ls : Array Slot} {rest : List Value} {H0 : Heap}
theorem mr_getI (C : CM p s m args meth c d g cc nL rt) (hR : RM d g S H) {idx k : Nat} (hf : FL idx k) (h0 : srt k = 0) (hdg : decode cc pc = .ok (.getfield idx, 3))
    (kk : W p l e R s m args below meth c H locs cells slots Q (F0 m (pc + 3) ls (.int (mF S k) :: rest))) : W p l e R s m args below meth c H locs cells slots Q (F0 m pc ls (.ref g.1 :: rest)) := by
  obtain ⟨hx, hb, hml, hown, hts, hK, hg, hr, hlk⟩ := C
  obtain ⟨hk, hd, hl⟩ := hf
  refine va_get (D := d.1) (cl := vwCl) (ci := 9) (v := .int (mF S k)) (C := RX9) (T := TX9) (N := 108) hx hb hts i_X9 hown hK hR.obj 0 rfl rfl k hk (hts _ hl) (fun x hx => by rw [hd] at hx; exact hx) ?_ hdg kk
  rw [fldM_get g S hk, fldV, if_pos h0]
theorem mr_getR (C : CM p s m args meth c d g cc nL rt) (hR : RM d g S H) {idx k : Nat} (hf : FL idx k) (h0 : srt k ≠ 0) (hdg : decode cc pc = .ok (.getfield idx, 3))
    (kk : W p l e R s m args below meth c H locs cells slots Q (F0 m (pc + 3) ls (.ref (g.2 k) :: rest))) : W p l e R s m args below meth c H locs cells slots Q (F0 m pc ls (.ref g.1 :: rest)) := by
  obtain ⟨hx, hb, hml, hown, hts, hK, hg, hr, hlk⟩ := C
  obtain ⟨hk, hd, hl⟩ := hf
  refine va_get (D := d.1) (cl := vwCl) (ci := 9) (v := .ref (g.2 k)) (C := RX9) (T := TX9) (N := 108) hx hb hts i_X9 hown hK hR.obj 0 rfl rfl k hk (hts _ hl) (fun x hx => by rw [hd] at hx; exact hx) ?_ hdg kk
  rw [fldM_get g S hk, fldV, if_neg h0]
theorem mr_put0 (C : CM p s m args meth c d g cc nL rt) (hR : RM d g S H) (hS : va_S (AM g) H0 H locs) {idx k : Nat} (hf : FL idx k) (h0 : srt k = 0) (hfin : (TX9 k).2.2.2 = false) {v : Int32} {ty : FieldType} (hty : tyX9 k = ty) (hn : narrow ty (.int v) = .int v) (hv : fits ty (.int v) = true) (hdg : decode cc pc = .ok (.putfield idx, 3))
    (kk : ∀ (H1 : Heap) (locs1 : List Loc), RM d g (pF S k v) H1 → va_S (AM g) H0 H1 locs1 → W p l e R s m args below meth c H1 locs1 cells slots Q (F0 m (pc + 3) ls rest)) : W p l e R s m args below meth c H locs cells slots Q (F0 m pc ls (.int v :: .ref g.1 :: rest)) := by
  obtain ⟨hx, hb, hml, hown, hts, hK, hg, hr, hlk⟩ := C
  obtain ⟨hk, hd, hl⟩ := hf
  refine raw_put (D := d.1) (cl := vwCl) (ci := 9) (v := .int v) (ty := ty) (C := RX9) (T := TX9) (N := 108) hx hb hts i_X9 tyX9 tyX9_ok nmX9 hown hK hR.1 rfl k hk (hts _ hl) (fun x hx => by rw [hd] at hx; exact hx) hfin (by rw [tyX9_ok k hk, hty]) hn hv (by rw [fldM_len]; exact hk) hdg (fun H1 j e1 e2 e3 => ?_)
  exact kk H1 _ (hR.putF hg e3 h0 e1) (hS.put e2 e3 (Or.inl rfl))
theorem mr_putI (C : CM p s m args meth c d g cc nL rt) (hR : RM d g S H) (hS : va_S (AM g) H0 H locs) {idx k : Nat} (hf : FL idx k) (h0 : srt k = 0 ∧ (TX9 k).2.2.2 = false ∧ tyX9 k = .int) {v : Int32} (hdg : decode cc pc = .ok (.putfield idx, 3))
    (kk : ∀ (H1 : Heap) (locs1 : List Loc), RM d g (pF S k v) H1 → va_S (AM g) H0 H1 locs1 → W p l e R s m args below meth c H1 locs1 cells slots Q (F0 m (pc + 3) ls rest)) : W p l e R s m args below meth c H locs cells slots Q (F0 m pc ls (.int v :: .ref g.1 :: rest)) :=
  mr_put0 C hR hS hf h0.1 h0.2.1 h0.2.2 rfl rfl hdg kk
theorem mr_putZ (C : CM p s m args meth c d g cc nL rt) (hR : RM d g S H) (hS : va_S (AM g) H0 H locs) {idx k : Nat} (hf : FL idx k) (h0 : srt k = 0 ∧ (TX9 k).2.2.2 = false ∧ tyX9 k = .boolean) {v : Int32} (hv : is01 v = true) (hdg : decode cc pc = .ok (.putfield idx, 3))
    (kk : ∀ (H1 : Heap) (locs1 : List Loc), RM d g (pF S k v) H1 → va_S (AM g) H0 H1 locs1 → W p l e R s m args below meth c H1 locs1 cells slots Q (F0 m (pc + 3) ls rest)) : W p l e R s m args below meth c H locs cells slots Q (F0 m pc ls (.int v :: .ref g.1 :: rest)) :=
  mr_put0 C hR hS hf h0.1 h0.2.1 h0.2.2 (nar01 hv) (fit01 hv) hdg kk
theorem mr_iald (C : CM p s m args meth c d g cc nL rt) (hR : RM d g S H) {k : Nat} (h1 : srt k = 1) {i : Int32} (hin : vp_in i (lnM k)) (hdg : decode cc pc = .ok (.iaload, 1))
    (kk : W p l e R s m args below meth c H locs cells slots Q (F0 m (pc + 1) ls (.int (mA S k i.toNatClampNeg) :: rest))) : W p l e R s m args below meth c H locs cells slots Q (F0 m pc ls (.int i :: .ref (g.2 k) :: rest)) := by
  obtain ⟨hx, hb, hml, hown, hts, hK, hg, hr, hlk⟩ := C
  exact va_iald hx hb hK (hR.row (Or.inl h1) (arM_1 h1)) 0 1 rfl rfl hin hdg kk
theorem mr_zald (C : CM p s m args meth c d g cc nL rt) (hR : RM d g S H) {k : Nat} (h1 : srt k = 3) {i : Int32} (hin : vp_in i (lnM k)) (hdg : decode cc pc = .ok (.baload, 1))
    (kk : W p l e R s m args below meth c H locs cells slots Q (F0 m (pc + 1) ls (.int (mA S k i.toNatClampNeg) :: rest))) : W p l e R s m args below meth c H locs cells slots Q (F0 m pc ls (.int i :: .ref (g.2 k) :: rest)) := by
  obtain ⟨hx, hb, hml, hown, hts, hK, hg, hr, hlk⟩ := C
  exact va_zald hx hb hK (hR.row (Or.inr (Or.inr h1)) (arM_3 h1)) 0 3 rfl rfl hin hdg kk
theorem mr_lald (C : CM p s m args meth c d g cc nL rt) (hR : RM d g S H) {k : Nat} (h1 : srt k = 2) {i : Int32} (hin : vp_in i (lnM k)) (hdg : decode cc pc = .ok (.laload, 1))
    (kk : W p l e R s m args below meth c H locs cells slots Q (F0 m (pc + 1) ls (.long (mL S k i.toNatClampNeg) :: rest))) : W p l e R s m args below meth c H locs cells slots Q (F0 m pc ls (.int i :: .ref (g.2 k) :: rest)) := by
  obtain ⟨hx, hb, hml, hown, hts, hK, hg, hr, hlk⟩ := C
  exact va_lald hx hb hK (hR.row (Or.inr (Or.inl h1)) (arM_2 h1)) 0 2 rfl rfl hin hdg kk
theorem mr_iast (C : CM p s m args meth c d g cc nL rt) (hR : RM d g S H) (hS : va_S (AM g) H0 H locs) {k : Nat} (h1 : srt k = 1) {i x : Int32} (hin : vp_in i (lnM k)) (hdg : decode cc pc = .ok (.iastore, 1))
    (kk : ∀ (H1 : Heap) (locs1 : List Loc), RM d g (pA S k i.toNatClampNeg x) H1 → va_S (AM g) H0 H1 locs1 → W p l e R s m args below meth c H1 locs1 cells slots Q (F0 m (pc + 1) ls rest)) : W p l e R s m args below meth c H locs cells slots Q (F0 m pc ls (.int x :: .int i :: .ref (g.2 k) :: rest)) := by
  obtain ⟨hx, hb, hml, hown, hts, hK, hg, hr, hlk⟩ := C
  have hk : isR k := Or.inl h1
  have h0 := hR.2 k hk
  rw [arM_1 h1] at h0
  refine raw_iast hx hb h0 (hK.2 1 _ rfl).1 hin hdg (fun H1 j e1 e2 e3 => ?_)
  refine kk H1 _ (hR.putA hg hk e3 (fun _ => rfl) (fun i hi => arM_pA d S k _ x i hi) ?_) (hS.put e2 e3 (Or.inr ⟨k, hk, rfl⟩))
  rw [arM_1 h1, mA_pA]
  exact e1
theorem mr_zast (C : CM p s m args meth c d g cc nL rt) (hR : RM d g S H) (hS : va_S (AM g) H0 H locs) {k : Nat} (h1 : srt k = 3) {i x : Int32} (hin : vp_in i (lnM k)) (hdg : decode cc pc = .ok (.bastore, 1))
    (kk : ∀ (H1 : Heap) (locs1 : List Loc), RM d g (pA S k i.toNatClampNeg (vp_nar .boolean x)) H1 → va_S (AM g) H0 H1 locs1 → W p l e R s m args below meth c H1 locs1 cells slots Q (F0 m (pc + 1) ls rest)) : W p l e R s m args below meth c H locs cells slots Q (F0 m pc ls (.int x :: .int i :: .ref (g.2 k) :: rest)) := by
  obtain ⟨hx, hb, hml, hown, hts, hK, hg, hr, hlk⟩ := C
  have hk : isR k := Or.inr (Or.inr h1)
  have h0 := hR.2 k hk
  rw [arM_3 h1] at h0
  refine raw_zast hx hb h0 (hK.2 3 _ rfl).1 hin hdg (fun H1 j e1 e2 e3 => ?_)
  refine kk H1 _ (hR.putA hg hk e3 (fun _ => rfl) (fun i hi => arM_pA d S k _ _ i hi) ?_) (hS.put e2 e3 (Or.inr ⟨k, hk, rfl⟩))
  rw [arM_3 h1, mA_pA]
  exact e1
theorem mr_last (C : CM p s m args meth c d g cc nL rt) (hR : RM d g S H) (hS : va_S (AM g) H0 H locs) {k : Nat} (h1 : srt k = 2) {i : Int32} {x : Int64} (hin : vp_in i (lnM k)) (hdg : decode cc pc = .ok (.lastore, 1))
    (kk : ∀ (H1 : Heap) (locs1 : List Loc), RM d g (pL S k i.toNatClampNeg x) H1 → va_S (AM g) H0 H1 locs1 → W p l e R s m args below meth c H1 locs1 cells slots Q (F0 m (pc + 1) ls rest)) : W p l e R s m args below meth c H locs cells slots Q (F0 m pc ls (.long x :: .int i :: .ref (g.2 k) :: rest)) := by
  obtain ⟨hx, hb, hml, hown, hts, hK, hg, hr, hlk⟩ := C
  have hk : isR k := Or.inr (Or.inl h1)
  have h0 := hR.2 k hk
  rw [arM_2 h1] at h0
  refine raw_last hx hb h0 (hK.2 2 _ rfl).1 hin hdg (fun H1 j e1 e2 e3 => ?_)
  refine kk H1 _ (hR.putA hg hk e3 (fun _ => rfl) (fun i hi => arM_pL d S k _ x i hi) ?_) (hS.put e2 e3 (Or.inr ⟨k, hk, rfl⟩))
  rw [arM_2 h1, mL_pL]
  exact e1
/-! ends -/
theorem mr_vret (C : CM p s m args meth c d g cc nL none) (hR : RM d g S H) (hS : va_S (AM g) s.heap H locs) {o : Ms} (hf : some S = some o) (hdg : decode cc pc = .ok (.return_, 1)) :
    W p l e R s m args below meth c H locs 0 0 (MQ below (QV d g o) args s 0 0 (AM g)) (F0 m pc ls []) := by
  obtain ⟨hx, hb, hml, hown, hts, hK, hg, hr, hlk⟩ := C
  cases hf
  exact W.vret hx hb hr (fun t ht _ => ⟨⟨(), rfl, trivial, by show RM _ _ _ t.heap; rw [ht]; exact hR⟩, hS.F ht⟩) hS.2.2 hdg hlk
theorem mr_iret (C : CM p s m args meth c d g cc nL (some .int)) (hR : RM d g S H) (hS : va_S (AM g) s.heap H locs) {o : Int32 × Ms} {v : Int32} (hf : some (v, S) = some o) (hdg : decode cc pc = .ok (.ireturn, 1)) :
    W p l e R s m args below meth c H locs 0 0 (MQ below (QI d g o) args s 0 0 (AM g)) (F0 m pc ls [.int v]) := by
  obtain ⟨hx, hb, hml, hown, hts, hK, hg, hr, hlk⟩ := C
  cases hf
  exact W.iret hx hb hr (fun t ht _ => ⟨⟨v, (), rfl, rfl, by show RM _ _ _ t.heap; rw [ht]; exact hR⟩, hS.F ht⟩) hS.2.2 hdg hlk
theorem mr_zret (C : CM p s m args meth c d g cc nL (some .boolean)) (hR : RM d g S H) (hS : va_S (AM g) s.heap H locs) {o : Int32 × Ms} {v : Int32} (hv : is01 v = true) (hf : some (v, S) = some o) (hdg : decode cc pc = .ok (.ireturn, 1)) :
    W p l e R s m args below meth c H locs 0 0 (MQ below (QI d g o) args s 0 0 (AM g)) (F0 m pc ls [.int v]) := by
  obtain ⟨hx, hb, hml, hown, hts, hK, hg, hr, hlk⟩ := C
  cases hf
  exact W.zret hx hb hr (nar01 hv) (fun t ht _ => ⟨⟨v, (), rfl, rfl, by show RM _ _ _ t.heap; rw [ht]; exact hR⟩, hS.F ht⟩) hS.2.2 hdg hlk
theorem mr_lret (C : CM p s m args meth c d g cc nL (some .long)) (hR : RM d g S H) (hS : va_S (AM g) s.heap H locs) {o : Int64 × Ms} {v : Int64} (hf : some (v, S) = some o) (hdg : decode cc pc = .ok (.lreturn, 1)) :
    W p l e R s m args below meth c H locs 0 0 (MQ below (QL d g o) args s 0 0 (AM g)) (F0 m pc ls [.long v]) := by
  obtain ⟨hx, hb, hml, hown, hts, hK, hg, hr, hlk⟩ := C
  cases hf
  exact W.lret hx hb hr (fun t ht _ => ⟨⟨v, (), rfl, rfl, by show RM _ _ _ t.heap; rw [ht]; exact hR⟩, hS.F ht⟩) hS.2.2 hdg hlk
/-! calls -/
theorem RM.recv {s : State} (hR : RM d g S H) (hK : va_K d.1 vwCl (dT d) s) : ∃ cell : Cell, H[g.1]? = some cell ∧ cell.vm.isStatics = false ∧ s.vm.findClass RX9 = some cell.cls := va_recv hK hR.obj (ci := 9) (q0 := 0) rfl rfl
theorem WV.cw {idx : Nat} {y : MethodName} {bytes : ByteArray} {nL' n fr lo : Nat} {rt' : Option FieldType} (h : WV idx y bytes nL' rt' n) (hts : ∀ w ∈ lwg, w.before args s = true) (hR : fr + 1 ≤ R.frames ∧ 8 + (nL' + 11) + lo ≤ R.locals) : CallW R s args RX9 RX9 idx y bytes nL' rt' (wsM y bytes nL' rt') (rmM fr lo) 0 0 n := by
  obtain ⟨h1, h2, h3, h4, h5, hd⟩ := h
  refine cwV n hts (lwg_good ?_) rfl rfl rfl hd hR
  intro w hw
  simp only [wsV, List.mem_append, List.mem_cons, List.not_mem_nil, or_false] at hw
  rcases hw with (rfl | rfl | rfl | rfl) | (rfl | hw)
  · exact h1
  · exact h2
  · exact h3
  · exact h4
  · exact h5
  · exact hw
theorem WS.cw {idx : Nat} {y : MethodName} {bytes : ByteArray} {nL' n fr lo : Nat} {rt' : Option FieldType} (h : WS idx y bytes nL' rt' n) (hts : ∀ w ∈ lwg, w.before args s = true) (hR : fr + 1 ≤ R.frames ∧ 8 + (nL' + 11) + lo ≤ R.locals) : CallB R s args RX9 idx y bytes nL' rt' (wsM y bytes nL' rt') (rmM fr lo) 0 0 n ∧ (Cond.static y).before args s = true := by
  obtain ⟨h1, h2, h3, h4, hd⟩ := h
  refine cwS n hts (lwg_good ?_) rfl rfl rfl hd hR
  intro w hw
  simp only [wsS, List.mem_append, List.mem_cons, List.not_mem_nil, or_false] at hw
  rcases hw with (rfl | rfl | rfl) | (rfl | hw)
  · exact h1
  · exact h2
  · exact h3
  · exact h4
  · exact hw

theorem mr_metV {l : Launch} {d : Dd} {g : Gm} {S : Ms} {y : MethodName} {bytes : ByteArray} {nL fr lo : Nat} {av : List Value} {S1 : Ms} (hy : plainName y.cls = true) (hyc : y.cls = RX9) (hlen : (lg_sl av).length ≤ nL)
    (body : ∀ (p : Program) (e : Env) (s : State) (m : MethodId) (args : Array Value) (below : List Frame) (meth : Method) (c : Code) (ls : Array Slot), CM p s m args meth c d g bytes nL none → RM d g S s.heap → lv_has ls nL (lv_args 0 av) → W p l e (rmM fr lo) s m args below meth c s.heap [] 0 0 (MQ below (QV d g S1) args s 0 0 (AM g)) (F0 m 0 ls [])) : MtV l d g y bytes nL fr lo av S S1 := by
  refine Met.ofW (cc := bytes) (maxL := nL) (ret := none) hy rfl ?_
  intro p e s m args below meth c s₁ B hml hv
  obtain ⟨rfl, hR, hK, hg⟩ := hv
  have hts := atoms_spec (ws := wsM y bytes nL none) B.pre
  have hown : s.vm.findClass RX9 = some m.cls := hyc ▸ findClass_of_methodNamed B.named
  have hl := lv_entry av (n := nL) hlen
  rw [lg_entry_eq]
  exact body p e s m _ below meth c _ ⟨B.exec, B.bytes, hml, hown, fun w hw => hts w (List.mem_cons_of_mem _ hw), hK, hg, B.returns, B.notSynchronized⟩ hR hl

theorem mr_metI {l : Launch} {d : Dd} {g : Gm} {S : Ms} {y : MethodName} {bytes : ByteArray} {nL fr lo : Nat} {rt : Option FieldType} {av : List Value} {o : Int32 × Ms} (hy : plainName y.cls = true) (hyc : y.cls = RX9) (hlen : (lg_sl av).length ≤ nL)
    (body : ∀ (p : Program) (e : Env) (s : State) (m : MethodId) (args : Array Value) (below : List Frame) (meth : Method) (c : Code) (ls : Array Slot), CM p s m args meth c d g bytes nL rt → RM d g S s.heap → lv_has ls nL (lv_args 0 av) → W p l e (rmM fr lo) s m args below meth c s.heap [] 0 0 (MQ below (QI d g o) args s 0 0 (AM g)) (F0 m 0 ls [])) : MtI l d g y bytes nL rt fr lo av S o := by
  refine Met.ofW (cc := bytes) (maxL := nL) (ret := rt) hy rfl ?_
  intro p e s m args below meth c s₁ B hml hv
  obtain ⟨rfl, hR, hK, hg⟩ := hv
  have hts := atoms_spec (ws := wsM y bytes nL rt) B.pre
  have hown : s.vm.findClass RX9 = some m.cls := hyc ▸ findClass_of_methodNamed B.named
  have hl := lv_entry av (n := nL) hlen
  rw [lg_entry_eq]
  exact body p e s m _ below meth c _ ⟨B.exec, B.bytes, hml, hown, fun w hw => hts w (List.mem_cons_of_mem _ hw), hK, hg, B.returns, B.notSynchronized⟩ hR hl

theorem mr_metL {l : Launch} {d : Dd} {g : Gm} {S : Ms} {y : MethodName} {bytes : ByteArray} {nL fr lo : Nat} {av : List Value} {o : Int64 × Ms} (hy : plainName y.cls = true) (hyc : y.cls = RX9) (hlen : (lg_sl av).length ≤ nL)
    (body : ∀ (p : Program) (e : Env) (s : State) (m : MethodId) (args : Array Value) (below : List Frame) (meth : Method) (c : Code) (ls : Array Slot), CM p s m args meth c d g bytes nL (some .long) → RM d g S s.heap → lv_has ls nL (lv_args 0 av) → W p l e (rmM fr lo) s m args below meth c s.heap [] 0 0 (MQ below (QL d g o) args s 0 0 (AM g)) (F0 m 0 ls [])) : MtL l d g y bytes nL fr lo av S o := by
  refine Met.ofW (cc := bytes) (maxL := nL) (ret := (some .long)) hy rfl ?_
  intro p e s m args below meth c s₁ B hml hv
  obtain ⟨rfl, hR, hK, hg⟩ := hv
  have hts := atoms_spec (ws := wsM y bytes nL (some .long)) B.pre
  have hown : s.vm.findClass RX9 = some m.cls := hyc ▸ findClass_of_methodNamed B.named
  have hl := lv_entry av (n := nL) hlen
  rw [lg_entry_eq]
  exact body p e s m _ below meth c _ ⟨B.exec, B.bytes, hml, hown, fun w hw => hts w (List.mem_cons_of_mem _ hw), hK, hg, B.returns, B.notSynchronized⟩ hR hl

theorem mr_callVv (C : CM p s m args meth c d g cc nL rt) (hR : RM d g S H) (hS : va_S (AM g) H0 H locs) {idx : Nat} {y : MethodName} {bytes : ByteArray} {nL' n fr lo : Nat} {As st : List Value} {S1 : Ms} (hM : MtV l d g y bytes nL' fr lo (.ref g.1 :: As) S S1) (hw : WV idx y bytes nL' none n) (hrm : fr + 1 ≤ R.frames ∧ 8 + (nL' + 11) + lo ≤ R.locals) (hn : As.length = n) (hst : st = As.reverse ++ .ref g.1 :: rest) (hcat : (rest.map fun v => v.category).sum ≤ 8) (hsz : ls.size = nL) (hdg : decode cc pc = .ok (.invokevirtual idx, 3)) (hcs : cells ≤ R.cells ∧ slots ≤ R.slots)
    (kk : ∀ (H1 : Heap) (locs1 : List Loc), RM d g S1 H1 → va_S (AM g) H0 H1 locs1 → W p l e R s m args below meth c H1 locs1 cells slots Q (F0 m (pc + 3) ls (rest))) : W p l e R s m args below meth c H locs cells slots Q (F0 m pc ls st) := by
  obtain ⟨hx, hb, hml, hown, hts, hK, hg, hr, hlk⟩ := C
  subst hst
  refine va_callv (va_runV (As := As) (rest := rest) ⟨hx, hb, hml, hown, hts⟩ hM (hw.cw hts hrm) ⟨PM_blind, hR.recv hK, fun U hU hW => ⟨rfl, by rw [hU]; exact hR, va_K.moved hW.alike hK, hg⟩⟩ rfl hn hsz rfl (lv_room hcat) hdg hcs) hS (fun q _ h => h) (fun q h => h) (fun u t H1 locs1 ht hvm hw hB hz hk hS1 => ?_)
  rw [ht] at hB
  exact kk H1 locs1 hB hS1

theorem mr_callVs (C : CM p s m args meth c d g cc nL rt) (hR : RM d g S H) (hS : va_S (AM g) H0 H locs) {idx : Nat} {y : MethodName} {bytes : ByteArray} {nL' n fr lo : Nat} {As st : List Value} {S1 : Ms} (hM : MtV l d g y bytes nL' fr lo As S S1) (hw : WS idx y bytes nL' none n) (hrm : fr + 1 ≤ R.frames ∧ 8 + (nL' + 11) + lo ≤ R.locals) (hn : As.length = n) (hst : st = As.reverse ++ rest) (hcat : (rest.map fun v => v.category).sum ≤ 8) (hsz : ls.size = nL) (hdg : decode cc pc = .ok (.invokestatic idx, 3)) (hcs : cells ≤ R.cells ∧ slots ≤ R.slots)
    (kk : ∀ (H1 : Heap) (locs1 : List Loc), RM d g S1 H1 → va_S (AM g) H0 H1 locs1 → W p l e R s m args below meth c H1 locs1 cells slots Q (F0 m (pc + 3) ls (rest))) : W p l e R s m args below meth c H locs cells slots Q (F0 m pc ls st) := by
  obtain ⟨hx, hb, hml, hown, hts, hK, hg, hr, hlk⟩ := C
  subst hst
  refine va_callv (va_runS (As := As) (rest := rest) ⟨hx, hb, hml, hown, hts⟩ hM (hw.cw hts hrm) ⟨PM_blind, fun U hU hW => ⟨rfl, by rw [hU]; exact hR, va_K.moved hW.alike hK, hg⟩⟩ rfl hn hsz rfl (lv_room hcat) hdg hcs) hS (fun q _ h => h) (fun q h => h) (fun u t H1 locs1 ht hvm hw hB hz hk hS1 => ?_)
  rw [ht] at hB
  exact kk H1 locs1 hB hS1

theorem mr_callIv (C : CM p s m args meth c d g cc nL rt) (hR : RM d g S H) (hS : va_S (AM g) H0 H locs) {idx : Nat} {y : MethodName} {bytes : ByteArray} {nL' n fr lo : Nat} {rt' : Option FieldType} {As st : List Value} {o : Int32 × Ms} (hM : MtI l d g y bytes nL' rt' fr lo (.ref g.1 :: As) S o) (hw : WV idx y bytes nL' rt' n) (hrm : fr + 1 ≤ R.frames ∧ 8 + (nL' + 11) + lo ≤ R.locals) (hn : As.length = n) (hst : st = As.reverse ++ .ref g.1 :: rest) (hcat : (rest.map fun v => v.category).sum ≤ 8) (hsz : ls.size = nL) (hdg : decode cc pc = .ok (.invokevirtual idx, 3)) (hcs : cells ≤ R.cells ∧ slots ≤ R.slots)
    (kk : ∀ (H1 : Heap) (locs1 : List Loc), RM d g o.2 H1 → va_S (AM g) H0 H1 locs1 → W p l e R s m args below meth c H1 locs1 cells slots Q (F0 m (pc + 3) ls (.int o.1 :: rest))) : W p l e R s m args below meth c H locs cells slots Q (F0 m pc ls st) := by
  obtain ⟨hx, hb, hml, hown, hts, hK, hg, hr, hlk⟩ := C
  subst hst
  refine va_calli (va_runV (As := As) (rest := rest) ⟨hx, hb, hml, hown, hts⟩ hM (hw.cw hts hrm) ⟨PM_blind, hR.recv hK, fun U hU hW => ⟨rfl, by rw [hU]; exact hR, va_K.moved hW.alike hK, hg⟩⟩ rfl hn hsz rfl (lv_room hcat) hdg hcs) hS (fun q _ h => h) (fun q h => h) (fun r u t H1 locs1 ht hvm hw hB hz hk hS1 => ?_)
  rw [ht] at hB
  subst hw
  exact kk H1 locs1 hB hS1

theorem mr_callIs (C : CM p s m args meth c d g cc nL rt) (hR : RM d g S H) (hS : va_S (AM g) H0 H locs) {idx : Nat} {y : MethodName} {bytes : ByteArray} {nL' n fr lo : Nat} {rt' : Option FieldType} {As st : List Value} {o : Int32 × Ms} (hM : MtI l d g y bytes nL' rt' fr lo As S o) (hw : WS idx y bytes nL' rt' n) (hrm : fr + 1 ≤ R.frames ∧ 8 + (nL' + 11) + lo ≤ R.locals) (hn : As.length = n) (hst : st = As.reverse ++ rest) (hcat : (rest.map fun v => v.category).sum ≤ 8) (hsz : ls.size = nL) (hdg : decode cc pc = .ok (.invokestatic idx, 3)) (hcs : cells ≤ R.cells ∧ slots ≤ R.slots)
    (kk : ∀ (H1 : Heap) (locs1 : List Loc), RM d g o.2 H1 → va_S (AM g) H0 H1 locs1 → W p l e R s m args below meth c H1 locs1 cells slots Q (F0 m (pc + 3) ls (.int o.1 :: rest))) : W p l e R s m args below meth c H locs cells slots Q (F0 m pc ls st) := by
  obtain ⟨hx, hb, hml, hown, hts, hK, hg, hr, hlk⟩ := C
  subst hst
  refine va_calli (va_runS (As := As) (rest := rest) ⟨hx, hb, hml, hown, hts⟩ hM (hw.cw hts hrm) ⟨PM_blind, fun U hU hW => ⟨rfl, by rw [hU]; exact hR, va_K.moved hW.alike hK, hg⟩⟩ rfl hn hsz rfl (lv_room hcat) hdg hcs) hS (fun q _ h => h) (fun q h => h) (fun r u t H1 locs1 ht hvm hw hB hz hk hS1 => ?_)
  rw [ht] at hB
  subst hw
  exact kk H1 locs1 hB hS1

theorem mr_callLv (C : CM p s m args meth c d g cc nL rt) (hR : RM d g S H) (hS : va_S (AM g) H0 H locs) {idx : Nat} {y : MethodName} {bytes : ByteArray} {nL' n fr lo : Nat} {As st : List Value} {o : Int64 × Ms} (hM : MtL l d g y bytes nL' fr lo (.ref g.1 :: As) S o) (hw : WV idx y bytes nL' (some .long) n) (hrm : fr + 1 ≤ R.frames ∧ 8 + (nL' + 11) + lo ≤ R.locals) (hn : As.length = n) (hst : st = As.reverse ++ .ref g.1 :: rest) (hcat : (rest.map fun v => v.category).sum ≤ 8) (hsz : ls.size = nL) (hdg : decode cc pc = .ok (.invokevirtual idx, 3)) (hcs : cells ≤ R.cells ∧ slots ≤ R.slots)
    (kk : ∀ (H1 : Heap) (locs1 : List Loc), RM d g o.2 H1 → va_S (AM g) H0 H1 locs1 → W p l e R s m args below meth c H1 locs1 cells slots Q (F0 m (pc + 3) ls (.long o.1 :: rest))) : W p l e R s m args below meth c H locs cells slots Q (F0 m pc ls st) := by
  obtain ⟨hx, hb, hml, hown, hts, hK, hg, hr, hlk⟩ := C
  subst hst
  refine va_calll (va_runV (As := As) (rest := rest) ⟨hx, hb, hml, hown, hts⟩ hM (hw.cw hts hrm) ⟨PM_blind, hR.recv hK, fun U hU hW => ⟨rfl, by rw [hU]; exact hR, va_K.moved hW.alike hK, hg⟩⟩ rfl hn hsz rfl (lv_room hcat) hdg hcs) hS (fun q _ h => h) (fun q h => h) (fun r u t H1 locs1 ht hvm hw hB hz hk hS1 => ?_)
  rw [ht] at hB
  subst hw
  exact kk H1 locs1 hB hS1

theorem mr_callLs (C : CM p s m args meth c d g cc nL rt) (hR : RM d g S H) (hS : va_S (AM g) H0 H locs) {idx : Nat} {y : MethodName} {bytes : ByteArray} {nL' n fr lo : Nat} {As st : List Value} {o : Int64 × Ms} (hM : MtL l d g y bytes nL' fr lo As S o) (hw : WS idx y bytes nL' (some .long) n) (hrm : fr + 1 ≤ R.frames ∧ 8 + (nL' + 11) + lo ≤ R.locals) (hn : As.length = n) (hst : st = As.reverse ++ rest) (hcat : (rest.map fun v => v.category).sum ≤ 8) (hsz : ls.size = nL) (hdg : decode cc pc = .ok (.invokestatic idx, 3)) (hcs : cells ≤ R.cells ∧ slots ≤ R.slots)
    (kk : ∀ (H1 : Heap) (locs1 : List Loc), RM d g o.2 H1 → va_S (AM g) H0 H1 locs1 → W p l e R s m args below meth c H1 locs1 cells slots Q (F0 m (pc + 3) ls (.long o.1 :: rest))) : W p l e R s m args below meth c H locs cells slots Q (F0 m pc ls st) := by
  obtain ⟨hx, hb, hml, hown, hts, hK, hg, hr, hlk⟩ := C
  subst hst
  refine va_calll (va_runS (As := As) (rest := rest) ⟨hx, hb, hml, hown, hts⟩ hM (hw.cw hts hrm) ⟨PM_blind, fun U hU hW => ⟨rfl, by rw [hU]; exact hR, va_K.moved hW.alike hK, hg⟩⟩ rfl hn hsz rfl (lv_room hcat) hdg hcs) hS (fun q _ h => h) (fun q h => h) (fun r u t H1 locs1 ht hvm hw hB hz hk hS1 => ?_)
  rw [ht] at hB
  subst hw
  exact kk H1 locs1 hB hS1
end MROWS

def ck {ρ : Type} (i : Int32) (n : Nat) (k : Option ρ) : Option ρ := if i < 0 ∨ n ≤ i.toNatClampNeg then none else k
theorem ck_some {ρ : Type} {i : Int32} {n : Nat} {k : Option ρ} {o : ρ} (h : ck i n k = some o) : vp_in i n ∧ k = some o := by
  unfold ck at h
  split at h
  · cases h
  · next h1 => exact ⟨h1, h⟩
theorem bnd_some {α β : Type} {x : Option α} {k : α → Option β} {o : β} (h : x.bind k = some o) : ∃ a, x = some a ∧ k a = some o := Option.bind_eq_some_iff.mp h
theorem tsw_ne {x : Int32} {k : Int} {v : Int32} (hv : v.toInt = k) (h : ¬ x = v) : x.toInt ≠ k := fun z => h (Int32.toInt_inj.mp (z.trans hv.symm))
