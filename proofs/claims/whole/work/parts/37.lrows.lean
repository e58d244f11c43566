
/-! the law's world: the component's cells K, M; the reference's g, S; apart -/
def LWd (x : Xc) (g : Gm) (K : Ka) (M : Cm) (S : Ms) (H : Heap) : Prop := RC x K M H ∧ RM x.1 g S H ∧ gOK g ∧ ∀ q, AM g q → x.2.1 ≤ q ∧ q < kz K ∧ kd K q = 0
theorem RM.kept {d : Dd} {g : Gm} {S : Ms} {H H1 : Heap} (h : RM d g S H) (ho : ∀ q : Nat, AM g q → H1[q]? = H[q]?) : RM d g S H1 :=
  ⟨h.1.kept (ho _ (Or.inl rfl)), fun k hk => (h.2 k hk).kept (ho _ (Or.inr ⟨k, hk, rfl⟩))⟩
theorem RC.keptO {x : Xc} {K : Ka} {M : Cm} {H H1 : Heap} (h : RC x K M H) (hz : H1.size = H.size) (ho : ∀ q : Nat, kd K q ≠ 0 → H1[q]? = H[q]?) : RC x K M H1 :=
  ⟨hz.trans h.1, h.2.1, fun a ha => ⟨(h.2.2 a ha).1, (h.2.2 a ha).2.kept (ho a ha)⟩⟩
theorem LWd.cls {x : Xc} {g : Gm} {K K' : Ka} {M M' : Cm} {S : Ms} {H H1 : Heap} (h : LWd x g K M S H) (hL : KLe K K') (hR : RC x K' M' H1) (ho : ∀ q : Nat, q < H.size → ¬ AC K q → H1[q]? = H[q]?) : LWd x g K' M' S H1 := by
  obtain ⟨h1, h2, h3, h4⟩ := h
  have ha : ∀ q, AM g q → ¬ AC K q := fun q hq z => by
    obtain ⟨-, b, c⟩ := h4 q hq
    rcases z with z | z
    · exact z c
    · omega
  refine ⟨hR, h2.kept (fun q hq => ho q ?_ (ha q hq)), h3, fun q hq => ?_⟩
  · rw [h1.1]; exact (h4 q hq).2.1
  · obtain ⟨a, b, c⟩ := h4 q hq
    refine ⟨a, Nat.lt_of_lt_of_le b hL.1, ?_⟩
    exact Classical.byContradiction fun z => ha q hq (hL.2.2 q z)
theorem LWd.mod {x : Xc} {g : Gm} {K : Ka} {M : Cm} {S S' : Ms} {H H1 : Heap} (h : LWd x g K M S H) (hR : RM x.1 g S' H1) (hz : H1.size = H.size) (ho : ∀ q : Nat, q < H.size → ¬ AM g q → H1[q]? = H[q]?) : LWd x g K M S' H1 := by
  obtain ⟨h1, h2, h3, h4⟩ := h
  refine ⟨h1.keptO hz (fun q hq => ho q ?_ (fun z => hq (h4 q z).2.2)), hR, h3, h4⟩
  exact (h1.2.2 q hq).2.lt
/-- the words of a call of a method with a table -/
def CWh (own : String) (idx : Nat) (C : String) (y : MethodName) (bytes : ByteArray) (nL : Nat) (rt : Option FieldType) (hh : List (Nat × Nat × Nat × Nat)) (n : Nat) : Prop :=
  Cond.methodLink own idx y ∈ lwg ∧ Cond.instanceMethod y ∈ lwg ∧ Cond.selects C y y ∈ lwg ∧ Cond.initialized C ∈ lwg ∧ Cond.codeWith y bytes nL rt hh ∈ lwg ∧ (y.cls = C ∧ y.cls ≠ "java/lang/invoke/MethodHandle" ∧ y.cls ≠ "java/lang/invoke/VarHandle" ∧ (parseMethodDescriptor y.desc).map (fun d => d.parameters.length) = some n)
def CWg (own : String) (idx : Nat) (y : MethodName) (bytes : ByteArray) (nL : Nat) (rt : Option FieldType) (hh : List (Nat × Nat × Nat × Nat)) (n : Nat) : Prop :=
  Cond.methodLink own idx y ∈ lwg ∧ Cond.static y ∈ lwg ∧ Cond.initialized y.cls ∈ lwg ∧ Cond.codeWith y bytes nL rt hh ∈ lwg ∧ (y.cls ≠ "java/lang/invoke/MethodHandle" ∧ y.cls ≠ "java/lang/invoke/VarHandle" ∧ (parseMethodDescriptor y.desc).map (fun d => d.parameters.length) = some n)
section LAWROWS
variable {p : Program} {l : Launch} {e : Env} {R : Room} {s : State} {m : MethodId} {args : Array Value} {below : List Frame} {meth : Method} {c0 : Code} {H : Heap} {locs : List Loc} {Q : State → Prop}
variable {cc : ByteArray} {nL : Nat} {rt : Option FieldType} {x : Xc} {g : Gm} {K0 K : Ka} {M : Cm} {S : Ms} {own : String} {pc : Nat} {ls : Array Slot} {rest : List Value}
theorem W_size {cells slots : Nat} {f : JFrame} (kk : H.size ≤ s.heap.size + cells → W p l e R s m args below meth c0 H locs cells slots Q f) : W p l e R s m args below meth c0 H locs cells slots Q f :=
  fun T hT X => kk (by have h := X.same.2.2.1; rw [← hT]; exact h) T hT X

theorem lc_I (CX : CC p s m args meth c0 x K0 own cc nL rt) (hL : KLe K0 K) (hW : LWd x g K M S H) (hS : va_S (AC K0) s.heap H locs) {idx : Nat} {y : MethodName} {bytes : ByteArray} {nL' n fr lo : Nat} {rt' : Option FieldType} {o : Int32 × Cm} {As st : List Value} {a : Nat} (hk : (kd K a == 9) = true) (hM : CtI l x y bytes nL' rt' fr lo (.ref a :: As) K M o) (hw : CWv own idx RX8 y bytes nL' rt' n) (hrm : fr + 1 ≤ R.frames ∧ 8 + (nL' + 11) + lo ≤ R.locals) (hn : As.length = n) (hst : st = As.reverse ++ .ref a :: rest) (hcat : (rest.map fun v => v.category).sum ≤ 8) (hsz : ls.size = nL) (hdg : decode cc pc = .ok (.invokevirtual idx, 3)) (hcs : kz K - kz K0 ≤ R.cells ∧ ku K - ku K0 ≤ R.slots)
    (kk : ∀ (H1 : Heap) (locs1 : List Loc), LWd x g K o.2 S H1 → va_S (AC K0) s.heap H1 locs1 → W p l e R s m args below meth c0 H1 locs1 (kz K - kz K0) (ku K - ku K0) Q (F0 m (pc + 3) ls (.int o.1 :: rest))) : W p l e R s m args below meth c0 H locs (kz K - kz K0) (ku K - ku K0) Q (F0 m pc ls st) := by
  have hk : kd K a = 8 + 1 := by simpa using hk
  have hev := fun (U : State) (hU : U.heap = H) (hW : s.WarmedH U.vm) => CX.ev hS hU hW
  obtain ⟨hx, hb, hml, hown, hts, hE, hB, hr, hlk⟩ := CX
  have hR := hW.1
  subst hst
  refine va_calli (va_runV (As := As) (rest := rest) ⟨hx, hb, hml, hown, hts⟩ hM (hw.cw (rm := rmM fr lo) hts rfl rfl hrm) ⟨PCm_blind, hR.recv kc_8 hE.1 hk, fun U hU hW => ⟨rfl, by rw [hU]; exact hR, hev U hU hW⟩⟩ rfl hn hsz rfl (lv_room hcat) hdg hcs) hS (fun q _ h => hL.AC q h) (fun q h => hL.AC q h) (fun r u t H1 locs1 ht hvm hw hB1 hz hk1 hS1 => ?_)
  rw [ht] at hB1
  subst hw; exact kk H1 locs1 (hW.cls (KLe.rf K) hB1 hk1) hS1

theorem lm_I (CX : CC p s m args meth c0 x K0 own cc nL rt) (hz0 : kz K0 = s.heap.size) (hlo : x.2.1 = kz K0) (hL : KLe K0 K) (hW : LWd x g K M S H) (hS : va_S (AC K0) s.heap H locs) {idx : Nat} {y : MethodName} {bytes : ByteArray} {nL' n fr lo : Nat} {rt' : Option FieldType} {o : Int32 × Ms} {As st : List Value} (hM : MtI l x.1 g y bytes nL' rt' fr lo (.ref g.1 :: As) S o) (hw : CWv own idx RX9 y bytes nL' rt' n) (hrm : fr + 1 ≤ R.frames ∧ 8 + (nL' + 11) + lo ≤ R.locals) (hn : As.length = n) (hst : st = As.reverse ++ .ref g.1 :: rest) (hcat : (rest.map fun v => v.category).sum ≤ 8) (hsz : ls.size = nL) (hdg : decode cc pc = .ok (.invokevirtual idx, 3)) (hcs : kz K - kz K0 ≤ R.cells ∧ ku K - ku K0 ≤ R.slots)
    (kk : ∀ (H1 : Heap) (locs1 : List Loc), LWd x g K M o.2 H1 → va_S (AC K0) s.heap H1 locs1 → W p l e R s m args below meth c0 H1 locs1 (kz K - kz K0) (ku K - ku K0) Q (F0 m (pc + 3) ls (.int o.1 :: rest))) : W p l e R s m args below meth c0 H locs (kz K - kz K0) (ku K - ku K0) Q (F0 m pc ls st) := by
  obtain ⟨hx, hb, hml, hown, hts, hE, hB, hr, hlk⟩ := CX
  have hR := hW.2.1
  have hA : ∀ q, AM g q → AC K0 q := fun q hq => by
    obtain ⟨a, b, c⟩ := hW.2.2.2 q hq
    refine Or.inr ?_
    exact hlo ▸ a
  subst hst
  refine va_calli (va_runV (As := As) (rest := rest) ⟨hx, hb, hml, hown, hts⟩ hM (hw.cw (rm := rmM fr lo) hts rfl rfl hrm) ⟨PM_blind, hR.recv hE.1, fun U hU hW9 => ⟨rfl, by rw [hU]; exact hR, va_K.moved hW9.alike hE.1, hW.2.2.1⟩⟩ rfl hn hsz rfl (lv_room hcat) hdg hcs) hS (fun q _ h => hA q h) (fun q h => hA q h) (fun r u t H1 locs1 ht hvm hw hB1 hz hk1 hS1 => ?_)
  rw [ht] at hB1
  subst hw; refine W_size (fun hsz9 => ?_)
  have hs9 : H1.size = H.size := by
    have h7 := hW.1.1
    have h6 := hL.1
    omega
  exact kk H1 locs1 (hW.mod hB1 hs9 hk1) hS1

theorem lc_V (CX : CC p s m args meth c0 x K0 own cc nL rt) (hL : KLe K0 K) (hW : LWd x g K M S H) (hS : va_S (AC K0) s.heap H locs) {idx : Nat} {y : MethodName} {bytes : ByteArray} {nL' n fr lo : Nat} {o : Cm} {As st : List Value} {a : Nat} (hk : (kd K a == 9) = true) (hM : CtV l x y bytes nL' fr lo (.ref a :: As) K M o) (hw : CWv own idx RX8 y bytes nL' none n) (hrm : fr + 1 ≤ R.frames ∧ 8 + (nL' + 11) + lo ≤ R.locals) (hn : As.length = n) (hst : st = As.reverse ++ .ref a :: rest) (hcat : (rest.map fun v => v.category).sum ≤ 8) (hsz : ls.size = nL) (hdg : decode cc pc = .ok (.invokevirtual idx, 3)) (hcs : kz K - kz K0 ≤ R.cells ∧ ku K - ku K0 ≤ R.slots)
    (kk : ∀ (H1 : Heap) (locs1 : List Loc), LWd x g K o S H1 → va_S (AC K0) s.heap H1 locs1 → W p l e R s m args below meth c0 H1 locs1 (kz K - kz K0) (ku K - ku K0) Q (F0 m (pc + 3) ls (rest))) : W p l e R s m args below meth c0 H locs (kz K - kz K0) (ku K - ku K0) Q (F0 m pc ls st) := by
  have hk : kd K a = 8 + 1 := by simpa using hk
  have hev := fun (U : State) (hU : U.heap = H) (hW : s.WarmedH U.vm) => CX.ev hS hU hW
  obtain ⟨hx, hb, hml, hown, hts, hE, hB, hr, hlk⟩ := CX
  have hR := hW.1
  subst hst
  refine va_callv (va_runV (As := As) (rest := rest) ⟨hx, hb, hml, hown, hts⟩ hM (hw.cw (rm := rmM fr lo) hts rfl rfl hrm) ⟨PCm_blind, hR.recv kc_8 hE.1 hk, fun U hU hW => ⟨rfl, by rw [hU]; exact hR, hev U hU hW⟩⟩ rfl hn hsz rfl (lv_room hcat) hdg hcs) hS (fun q _ h => hL.AC q h) (fun q h => hL.AC q h) (fun u t H1 locs1 ht hvm hw hB1 hz hk1 hS1 => ?_)
  rw [ht] at hB1
  exact kk H1 locs1 (hW.cls (KLe.rf K) hB1 hk1) hS1

theorem lm_V (CX : CC p s m args meth c0 x K0 own cc nL rt) (hz0 : kz K0 = s.heap.size) (hlo : x.2.1 = kz K0) (hL : KLe K0 K) (hW : LWd x g K M S H) (hS : va_S (AC K0) s.heap H locs) {idx : Nat} {y : MethodName} {bytes : ByteArray} {nL' n fr lo : Nat} {o : Ms} {As st : List Value} (hM : MtV l x.1 g y bytes nL' fr lo (.ref g.1 :: As) S o) (hw : CWv own idx RX9 y bytes nL' none n) (hrm : fr + 1 ≤ R.frames ∧ 8 + (nL' + 11) + lo ≤ R.locals) (hn : As.length = n) (hst : st = As.reverse ++ .ref g.1 :: rest) (hcat : (rest.map fun v => v.category).sum ≤ 8) (hsz : ls.size = nL) (hdg : decode cc pc = .ok (.invokevirtual idx, 3)) (hcs : kz K - kz K0 ≤ R.cells ∧ ku K - ku K0 ≤ R.slots)
    (kk : ∀ (H1 : Heap) (locs1 : List Loc), LWd x g K M o H1 → va_S (AC K0) s.heap H1 locs1 → W p l e R s m args below meth c0 H1 locs1 (kz K - kz K0) (ku K - ku K0) Q (F0 m (pc + 3) ls (rest))) : W p l e R s m args below meth c0 H locs (kz K - kz K0) (ku K - ku K0) Q (F0 m pc ls st) := by
  obtain ⟨hx, hb, hml, hown, hts, hE, hB, hr, hlk⟩ := CX
  have hR := hW.2.1
  have hA : ∀ q, AM g q → AC K0 q := fun q hq => by
    obtain ⟨a, b, c⟩ := hW.2.2.2 q hq
    refine Or.inr ?_
    exact hlo ▸ a
  subst hst
  refine va_callv (va_runV (As := As) (rest := rest) ⟨hx, hb, hml, hown, hts⟩ hM (hw.cw (rm := rmM fr lo) hts rfl rfl hrm) ⟨PM_blind, hR.recv hE.1, fun U hU hW9 => ⟨rfl, by rw [hU]; exact hR, va_K.moved hW9.alike hE.1, hW.2.2.1⟩⟩ rfl hn hsz rfl (lv_room hcat) hdg hcs) hS (fun q _ h => hA q h) (fun q h => hA q h) (fun u t H1 locs1 ht hvm hw hB1 hz hk1 hS1 => ?_)
  rw [ht] at hB1
  refine W_size (fun hsz9 => ?_)
  have hs9 : H1.size = H.size := by
    have h7 := hW.1.1
    have h6 := hL.1
    omega
  exact kk H1 locs1 (hW.mod hB1 hs9 hk1) hS1

theorem lt_I (CX : CC p s m args meth c0 x K0 own cc nL rt) (hL : KLe K0 K) (hW : LWd x g K M S H) (hS : va_S (AC K0) s.heap H locs) {idx : Nat} {y : MethodName} {bytes : ByteArray} {nL' n fr lo : Nat} {rt' : Option FieldType} {hh : List (Nat × Nat × Nat × Nat)} {o : Int32 × Ka × Cm} {As st : List Value} {a : Nat} (hk : (kd K a == 9) = true) (hM : Tw l x y bytes nL' rt' hh fr lo (.ref a :: As) K M o) (hw : CWh own idx RX8 y bytes nL' rt' hh n) (hrm : fr + 1 ≤ R.frames ∧ 8 + (nL' + 11) + lo ≤ R.locals) (hn : As.length = n) (hst : st = As.reverse ++ .ref a :: rest) (hcat : (rest.map fun v => v.category).sum ≤ 8) (hsz : ls.size = nL) (hq : KLe K o.2.1) (hdg : decode cc pc = .ok (.invokevirtual idx, 3)) (hcs : kz o.2.1 - kz K0 ≤ R.cells ∧ ku o.2.1 - ku K0 ≤ R.slots)
    (kk : ∀ (H1 : Heap) (locs1 : List Loc), LWd x g o.2.1 o.2.2 S H1 → va_S (AC K0) s.heap H1 locs1 → W p l e R s m args below meth c0 H1 locs1 (kz o.2.1 - kz K0) (ku o.2.1 - ku K0) Q (F0 m (pc + 3) ls (.int o.1 :: rest))) : W p l e R s m args below meth c0 H locs (kz K - kz K0) (ku K - ku K0) Q (F0 m pc ls st) := by
  have hk : kd K a = 8 + 1 := by simpa using hk
  have hev := fun (U : State) (hU : U.heap = H) (hW : s.WarmedH U.vm) => CX.ev hS hU hW
  obtain ⟨hx, hb, hml, hown, hts, hE, hB, hr, hlk⟩ := CX
  obtain ⟨h1, h2, h3, h4, h5, hd⟩ := hw
  have hR := hW.1
  obtain ⟨e1, e2⟩ := cnt hL hq
  subst hst
  refine va_calli (vx_runVW (As := As) (rest := rest) (hh := hh) ⟨hx, hb, hml, hown, hts⟩ hM (vx_cwVW (rm := rmA fr lo _ _) n hts (lwg_good (fun w hw => ?_)) rfl rfl rfl hd hrm) ⟨PCm_blind, hR.recv kc_8 hE.1 hk, fun U hU hW => ⟨rfl, by rw [hU]; exact hR, hev U hU hW⟩⟩ rfl hn hsz rfl (lv_room hcat) hdg ⟨by show _ + (kz o.2.1 - kz K) ≤ _; rw [e1]; exact hcs.1, by show _ + (ku o.2.1 - ku K) ≤ _; rw [e2]; exact hcs.2⟩) hS (fun q _ h => hL.AC q h) (fun q h => hL.AC q h) (fun r u t H1 locs1 ht hvm hw hB1 hz hk1 hS1 => ?_)
  · simp only [wsV, List.mem_append, List.mem_cons, List.not_mem_nil, or_false] at hw
    rcases hw with (rfl | rfl | rfl | rfl) | (rfl | hw)
    · exact h1
    · exact h2
    · exact h3
    · exact h4
    · exact h5
    · exact hw
  · rw [ht] at hB1
    subst hw
    refine W.cs e1 e2 (kk H1 locs1 (hW.cls hq hB1 hk1) hS1)
theorem ls_I (CX : CC p s m args meth c0 x K0 own cc nL rt) (hL : KLe K0 K) (hW : LWd x g K M S H) (hS : va_S (AC K0) s.heap H locs) {idx : Nat} {y : MethodName} {bytes : ByteArray} {nL' n fr lo : Nat} {rt' : Option FieldType} {hh : List (Nat × Nat × Nat × Nat)} {o : Int32 × Ka × Cm} {As st : List Value} (hM : Tw l x y bytes nL' rt' hh fr lo As K M o) (hw : CWg own idx y bytes nL' rt' hh n) (hrm : fr + 1 ≤ R.frames ∧ 8 + (nL' + 11) + lo ≤ R.locals) (hn : As.length = n) (hst : st = As.reverse ++ rest) (hcat : (rest.map fun v => v.category).sum ≤ 8) (hsz : ls.size = nL) (hq : KLe K o.2.1) (hdg : decode cc pc = .ok (.invokestatic idx, 3)) (hcs : kz o.2.1 - kz K0 ≤ R.cells ∧ ku o.2.1 - ku K0 ≤ R.slots)
    (kk : ∀ (H1 : Heap) (locs1 : List Loc), LWd x g o.2.1 o.2.2 S H1 → va_S (AC K0) s.heap H1 locs1 → W p l e R s m args below meth c0 H1 locs1 (kz o.2.1 - kz K0) (ku o.2.1 - ku K0) Q (F0 m (pc + 3) ls (.int o.1 :: rest))) : W p l e R s m args below meth c0 H locs (kz K - kz K0) (ku K - ku K0) Q (F0 m pc ls st) := by
  have hev := fun (U : State) (hU : U.heap = H) (hW : s.WarmedH U.vm) => CX.ev hS hU hW
  obtain ⟨hx, hb, hml, hown, hts, hE, hB, hr, hlk⟩ := CX
  obtain ⟨h1, h2, h3, h5, hd⟩ := hw
  have hR := hW.1
  obtain ⟨e1, e2⟩ := cnt hL hq
  subst hst
  refine va_calli (vx_runSW (As := As) (rest := rest) (hh := hh) ⟨hx, hb, hml, hown, hts⟩ hM (vx_cwSW (rm := rmA fr lo _ _) n hts (lwg_good (fun w hw => ?_)) rfl rfl rfl hd hrm) ⟨PCm_blind, fun U hU hW => ⟨rfl, by rw [hU]; exact hR, hev U hU hW⟩⟩ rfl hn hsz rfl (lv_room hcat) hdg ⟨by show _ + (kz o.2.1 - kz K) ≤ _; rw [e1]; exact hcs.1, by show _ + (ku o.2.1 - ku K) ≤ _; rw [e2]; exact hcs.2⟩) hS (fun q _ h => hL.AC q h) (fun q h => hL.AC q h) (fun r u t H1 locs1 ht hvm hw hB1 hz hk1 hS1 => ?_)
  · simp only [va_wsS, List.mem_append, List.mem_cons, List.not_mem_nil, or_false] at hw
    rcases hw with (rfl | rfl | rfl) | (rfl | hw)
    · exact h1
    · exact h2
    · exact h3
    · exact h5
    · exact hw
  · rw [ht] at hB1
    subst hw
    refine W.cs e1 e2 (kk H1 locs1 (hW.cls hq hB1 hk1) hS1)
end LAWROWS
