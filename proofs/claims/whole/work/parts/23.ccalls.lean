
/-! contracts of the component's methods that make nothing -/
def PCm (x : Xc) (K : Ka) (M : Cm) (av : List Value) : Array Value → State → Prop := va_Pc av (fun U => RC x K M U.heap ∧ EV x U U.heap)
def CQV (x : Xc) (K : Ka) (M' : Cm) : Array Value → State → Outcome → State → Prop := va_Qv (fun _ : Unit => True) (fun _ t => RC x K M' t.heap) (AC K)
def CQI (x : Xc) (K : Ka) (o : Int32 × Cm) : Array Value → State → Outcome → State → Prop := va_Qi (fun (y : Int32) (_ : Unit) => y = o.1) (fun _ t => RC x K o.2 t.heap) (AC K)
def CQL (x : Xc) (K : Ka) (o : Int64 × Cm) : Array Value → State → Outcome → State → Prop := va_Ql (fun (y : Int64) (_ : Unit) => y = o.1) (fun _ t => RC x K o.2 t.heap) (AC K)
def CtV (l : Launch) (x : Xc) (y : MethodName) (bytes : ByteArray) (nL : Nat) (fr lo : Nat) (av : List Value) (K : Ka) (M M' : Cm) : Prop := Met l y (wsM y bytes nL none) (rmM fr lo) (PCm x K M av) (CQV x K M') 0 0 (AC K)
def CtI (l : Launch) (x : Xc) (y : MethodName) (bytes : ByteArray) (nL : Nat) (rt : Option FieldType) (fr lo : Nat) (av : List Value) (K : Ka) (M : Cm) (o : Int32 × Cm) : Prop := Met l y (wsM y bytes nL rt) (rmM fr lo) (PCm x K M av) (CQI x K o) 0 0 (AC K)
def CtL (l : Launch) (x : Xc) (y : MethodName) (bytes : ByteArray) (nL : Nat) (fr lo : Nat) (av : List Value) (K : Ka) (M : Cm) (o : Int64 × Cm) : Prop := Met l y (wsM y bytes nL (some .long)) (rmM fr lo) (PCm x K M av) (CQL x K o) 0 0 (AC K)
theorem PCm_blind {x : Xc} {K : Ka} {M : Cm} {av : List Value} : FrameBlind (PCm x K M av) := fun a U gg mk q => ⟨q.1, q.2.1, EV.moved (s := U) (U := U.calling gg mk a) (State.WarmedH.refl U) q.2.2⟩
def CWv (own : String) (idx : Nat) (C : String) (y : MethodName) (bytes : ByteArray) (nL : Nat) (rt : Option FieldType) (n : Nat) : Prop :=
  Cond.methodLink own idx y ∈ lwg ∧ Cond.instanceMethod y ∈ lwg ∧ Cond.selects C y y ∈ lwg ∧ Cond.initialized C ∈ lwg ∧ Cond.code y bytes nL rt ∈ lwg ∧ (y.cls = C ∧ y.cls ≠ "java/lang/invoke/MethodHandle" ∧ y.cls ≠ "java/lang/invoke/VarHandle" ∧ (parseMethodDescriptor y.desc).map (fun d => d.parameters.length) = some n)
def CWs (own : String) (idx : Nat) (y : MethodName) (bytes : ByteArray) (nL : Nat) (rt : Option FieldType) (n : Nat) : Prop :=
  (Cond.methodLink own idx y ∈ lwg ∨ ∃ host, Cond.methodLinkNest own idx y host ∈ nws) ∧ Cond.static y ∈ lwg ∧ Cond.initialized y.cls ∈ lwg ∧ Cond.code y bytes nL rt ∈ lwg ∧ (y.cls ≠ "java/lang/invoke/MethodHandle" ∧ y.cls ≠ "java/lang/invoke/VarHandle" ∧ (parseMethodDescriptor y.desc).map (fun d => d.parameters.length) = some n)
theorem wsM_in {y : MethodName} {bytes : ByteArray} {nL : Nat} {rt : Option FieldType} (h : Cond.code y bytes nL rt ∈ lwg) : ∀ w ∈ wsM y bytes nL rt, w ∈ lwg := fun w hw => (List.mem_cons.mp hw).elim (fun e => e ▸ h) id
section CCALL
variable {p : Program} {l : Launch} {e : Env} {R : Room} {s : State} {m : MethodId} {args : Array Value} {below : List Frame} {meth : Method} {c0 : Code} {H : Heap} {locs : List Loc} {cells slots : Nat} {Q : State → Prop}
variable {cc : ByteArray} {nL : Nat} {rt : Option FieldType} {x : Xc} {K0 K : Ka} {M : Cm} {own C : String} {T : u_T} {ty : Nat → FieldType} {c : Nat} {pc : Nat} {ls : Array Slot} {rest : List Value}
theorem RC.recv (hC : KC c C T ty) (hR : RC x K M H) (hK : va_K x.1.1 vwCl (dT x.1) s) {a : Nat} (hk : kd K a = c + 1) : ∃ cell : Cell, H[a]? = some cell ∧ cell.vm.isStatics = false ∧ s.vm.findClass C = some cell.cls := by
  have h := hR.one (a := a) (by omega) (cel_obj hk hC.1)
  exact va_recv hK h (ci := c) (q0 := 0) hC.2.1 rfl
theorem CWv.cw {idx : Nat} {y : MethodName} {bytes : ByteArray} {nL' n mc ms : Nat} {rt' : Option FieldType} {rm : Room} (h : CWv own idx C y bytes nL' rt' n) (hts : ∀ w ∈ lwg, w.before args s = true) (hrc : rm.cells = mc) (hrs : rm.slots = ms) (hR : rm.frames + 1 ≤ R.frames ∧ 8 + (nL' + 11) + rm.locals ≤ R.locals) : CallW R s args own C idx y bytes nL' rt' (wsM y bytes nL' rt') rm mc ms n := by
  obtain ⟨h1, h2, h3, h4, h5, hd⟩ := h
  refine cwV n hts (lwg_good ?_) rfl hrc hrs hd hR
  intro w hw
  simp only [wsV, List.mem_append, List.mem_cons, List.not_mem_nil, or_false] at hw
  rcases hw with (rfl | rfl | rfl | rfl) | (rfl | hw)
  · exact h1
  · exact h2
  · exact h3
  · exact h4
  · exact h5
  · exact hw
/-- the world beside, seen by a callee -/
theorem CC.ev (CX : CC p s m args meth c0 x K0 own cc nL rt) (hS : va_S (AC K0) s.heap H locs) {U : State} (hU : U.heap = H) (hW : s.WarmedH U.vm) : EV x U U.heap := by
  obtain ⟨hx, hb, hml, hown, hts, hE, hB, hr, hlk⟩ := CX
  rw [hU]
  exact EV.moved hW (EV.kept (fun a h1 h2 => hS.2.1 a h1 (fun z => h2 (hB a z))) hE)

theorem cr_metV {l : Launch} {x : Xc} {K : Ka} {M : Cm} {y : MethodName} {bytes : ByteArray} {nL fr lo : Nat} {av : List Value} {M1 : Cm} (own : String) (hy : plainName y.cls = true) (hyc : y.cls = own) (hlen : (lg_sl av).length ≤ nL)
    (body : ∀ (p : Program) (e : Env) (s : State) (m : MethodId) (args : Array Value) (below : List Frame) (meth : Method) (c : Code) (ls : Array Slot), CC p s m args meth c x K own bytes nL none → RC x K M s.heap → lv_has ls nL (lv_args 0 av) → W p l e (rmM fr lo) s m args below meth c s.heap [] 0 0 (MQ below (CQV x K M1) args s 0 0 (AC K)) (F0 m 0 ls [])) : CtV l x y bytes nL fr lo av K M M1 := by
  refine Met.ofW (cc := bytes) (maxL := nL) (ret := none) hy rfl ?_
  intro p e s m args below meth c s₁ B hml hv
  obtain ⟨rfl, hR, hE⟩ := hv
  have hts := atoms_spec (ws := wsM y bytes nL none) B.pre
  have hown : s.vm.findClass own = some m.cls := hyc ▸ findClass_of_methodNamed B.named
  have hl := lv_entry av (n := nL) hlen
  rw [lg_entry_eq]
  exact body p e s m _ below meth c _ ⟨B.exec, B.bytes, hml, hown, fun w hw => hts w (List.mem_cons_of_mem _ hw), hE, fun q z => z.elim (fun y => (hR.2.2 q y).1) (fun y => Nat.le_trans hR.2.1 y), B.returns, B.notSynchronized⟩ hR hl

theorem cr_metI {l : Launch} {x : Xc} {K : Ka} {M : Cm} {y : MethodName} {bytes : ByteArray} {nL fr lo : Nat} {rt : Option FieldType} {av : List Value} {o : Int32 × Cm} (own : String) (hy : plainName y.cls = true) (hyc : y.cls = own) (hlen : (lg_sl av).length ≤ nL)
    (body : ∀ (p : Program) (e : Env) (s : State) (m : MethodId) (args : Array Value) (below : List Frame) (meth : Method) (c : Code) (ls : Array Slot), CC p s m args meth c x K own bytes nL rt → RC x K M s.heap → lv_has ls nL (lv_args 0 av) → W p l e (rmM fr lo) s m args below meth c s.heap [] 0 0 (MQ below (CQI x K o) args s 0 0 (AC K)) (F0 m 0 ls [])) : CtI l x y bytes nL rt fr lo av K M o := by
  refine Met.ofW (cc := bytes) (maxL := nL) (ret := rt) hy rfl ?_
  intro p e s m args below meth c s₁ B hml hv
  obtain ⟨rfl, hR, hE⟩ := hv
  have hts := atoms_spec (ws := wsM y bytes nL rt) B.pre
  have hown : s.vm.findClass own = some m.cls := hyc ▸ findClass_of_methodNamed B.named
  have hl := lv_entry av (n := nL) hlen
  rw [lg_entry_eq]
  exact body p e s m _ below meth c _ ⟨B.exec, B.bytes, hml, hown, fun w hw => hts w (List.mem_cons_of_mem _ hw), hE, fun q z => z.elim (fun y => (hR.2.2 q y).1) (fun y => Nat.le_trans hR.2.1 y), B.returns, B.notSynchronized⟩ hR hl

theorem cr_metL {l : Launch} {x : Xc} {K : Ka} {M : Cm} {y : MethodName} {bytes : ByteArray} {nL fr lo : Nat} {av : List Value} {o : Int64 × Cm} (own : String) (hy : plainName y.cls = true) (hyc : y.cls = own) (hlen : (lg_sl av).length ≤ nL)
    (body : ∀ (p : Program) (e : Env) (s : State) (m : MethodId) (args : Array Value) (below : List Frame) (meth : Method) (c : Code) (ls : Array Slot), CC p s m args meth c x K own bytes nL (some .long) → RC x K M s.heap → lv_has ls nL (lv_args 0 av) → W p l e (rmM fr lo) s m args below meth c s.heap [] 0 0 (MQ below (CQL x K o) args s 0 0 (AC K)) (F0 m 0 ls [])) : CtL l x y bytes nL fr lo av K M o := by
  refine Met.ofW (cc := bytes) (maxL := nL) (ret := (some .long)) hy rfl ?_
  intro p e s m args below meth c s₁ B hml hv
  obtain ⟨rfl, hR, hE⟩ := hv
  have hts := atoms_spec (ws := wsM y bytes nL (some .long)) B.pre
  have hown : s.vm.findClass own = some m.cls := hyc ▸ findClass_of_methodNamed B.named
  have hl := lv_entry av (n := nL) hlen
  rw [lg_entry_eq]
  exact body p e s m _ below meth c _ ⟨B.exec, B.bytes, hml, hown, fun w hw => hts w (List.mem_cons_of_mem _ hw), hE, fun q z => z.elim (fun y => (hR.2.2 q y).1) (fun y => Nat.le_trans hR.2.1 y), B.returns, B.notSynchronized⟩ hR hl

theorem cr_callVv (hC : KC c C T ty) (CX : CC p s m args meth c0 x K0 own cc nL rt) (hR : RC x K M H) (hL : KLe K0 K) (hS : va_S (AC K0) s.heap H locs) {idx : Nat} {y : MethodName} {bytes : ByteArray} {nL' n fr lo : Nat} {As st : List Value} {M1 : Cm} {a : Nat} (hk : (kd K a == c + 1) = true) (hM : CtV l x y bytes nL' fr lo (.ref a :: As) K M M1) (hw : CWv own idx C y bytes nL' none n) (hrm : fr + 1 ≤ R.frames ∧ 8 + (nL' + 11) + lo ≤ R.locals) (hn : As.length = n) (hst : st = As.reverse ++ .ref a :: rest) (hcat : (rest.map fun v => v.category).sum ≤ 8) (hsz : ls.size = nL) (hdg : decode cc pc = .ok (.invokevirtual idx, 3)) (hcs : cells ≤ R.cells ∧ slots ≤ R.slots)
    (kk : ∀ (H1 : Heap) (locs1 : List Loc), RC x K M1 H1 → va_S (AC K0) s.heap H1 locs1 → W p l e R s m args below meth c0 H1 locs1 cells slots Q (F0 m (pc + 3) ls (rest))) : W p l e R s m args below meth c0 H locs cells slots Q (F0 m pc ls st) := by
  have hk : kd K a = c + 1 := by simpa using hk
  have hev := fun (U : State) (hU : U.heap = H) (hW : s.WarmedH U.vm) => CX.ev hS hU hW
  obtain ⟨hx, hb, hml, hown, hts, hE, hB, hr, hlk⟩ := CX
  subst hst
  refine va_callv (va_runV (As := As) (rest := rest) ⟨hx, hb, hml, hown, hts⟩ hM (hw.cw (rm := rmM fr lo) hts rfl rfl hrm) ⟨PCm_blind, hR.recv hC hE.1 hk, fun U hU hW => ⟨rfl, by rw [hU]; exact hR, hev U hU hW⟩⟩ rfl hn hsz rfl (lv_room hcat) hdg hcs) hS (fun q _ h => hL.AC q h) (fun q h => hL.AC q h) (fun u t H1 locs1 ht hvm hw hB1 hz hk1 hS1 => ?_)
  rw [ht] at hB1
  exact kk H1 locs1 hB1 hS1

theorem cr_callVs (CX : CC p s m args meth c0 x K0 own cc nL rt) (hR : RC x K M H) (hL : KLe K0 K) (hS : va_S (AC K0) s.heap H locs) {idx : Nat} {y : MethodName} {bytes : ByteArray} {nL' n fr lo : Nat} {As st : List Value} {M1 : Cm} (hM : CtV l x y bytes nL' fr lo As K M M1) (hw : CWs own idx y bytes nL' none n) (hrm : fr + 1 ≤ R.frames ∧ 8 + (nL' + 11) + lo ≤ R.locals) (hn : As.length = n) (hst : st = As.reverse ++ rest) (hcat : (rest.map fun v => v.category).sum ≤ 8) (hsz : ls.size = nL) (hdg : decode cc pc = .ok (.invokestatic idx, 3)) (hcs : cells ≤ R.cells ∧ slots ≤ R.slots)
    (kk : ∀ (H1 : Heap) (locs1 : List Loc), RC x K M1 H1 → va_S (AC K0) s.heap H1 locs1 → W p l e R s m args below meth c0 H1 locs1 cells slots Q (F0 m (pc + 3) ls (rest))) : W p l e R s m args below meth c0 H locs cells slots Q (F0 m pc ls st) := by
  have hev := fun (U : State) (hU : U.heap = H) (hW : s.WarmedH U.vm) => CX.ev hS hU hW
  obtain ⟨hx, hb, hml, hown, hts, hE, hB, hr, hlk⟩ := CX
  obtain ⟨h1, h2, h3, h5, hd⟩ := hw
  subst hst
  have hp : PreS s H (PCm x K M As) As := ⟨PCm_blind, fun U hU hW => ⟨rfl, by rw [hU]; exact hR, hev U hU hW⟩⟩
  rcases h1 with h1 | ⟨host, h1⟩
  · refine va_callv (va_runS (As := As) (rest := rest) ⟨hx, hb, hml, hown, hts⟩ hM (va_cwS (rm := rmM fr lo) n hts (lwg_good (fun w hw => ?_)) rfl rfl rfl hd hrm) hp rfl hn hsz rfl (lv_room hcat) hdg hcs) hS (fun q _ h => hL.AC q h) (fun q h => hL.AC q h) (fun u t H1 locs1 ht hvm hw hB1 hz hk1 hS1 => ?_)
    · simp only [va_wsS, List.mem_append, List.mem_cons, List.not_mem_nil, or_false] at hw
      rcases hw with (rfl | rfl | rfl) | (rfl | hw)
      · exact h1
      · exact h2
      · exact h3
      · exact h5
      · exact hw
    · rw [ht] at hB1
      exact kk H1 locs1 hB1 hS1
  · refine va_callv (va_runSN (As := As) (rest := rest) ⟨hx, hb, hml, hown, hts⟩ hM ⟨va_cnB (rm := rmM fr lo) n hts (lwg_good (wsM_in h5)) rfl rfl rfl (hE.2.1 _ h1) (hts _ h3) hd hrm, hts _ h2, trivial⟩ hp rfl hn hsz rfl (lv_room hcat) hdg hcs) hS (fun q _ h => hL.AC q h) (fun q h => hL.AC q h) (fun u t H1 locs1 ht hvm hw hB1 hz hk1 hS1 => ?_)
    rw [ht] at hB1
    exact kk H1 locs1 hB1 hS1

theorem cr_callIv (hC : KC c C T ty) (CX : CC p s m args meth c0 x K0 own cc nL rt) (hR : RC x K M H) (hL : KLe K0 K) (hS : va_S (AC K0) s.heap H locs) {idx : Nat} {y : MethodName} {bytes : ByteArray} {nL' n fr lo : Nat} {rt' : Option FieldType} {As st : List Value} {o : Int32 × Cm} {a : Nat} (hk : (kd K a == c + 1) = true) (hM : CtI l x y bytes nL' rt' fr lo (.ref a :: As) K M o) (hw : CWv own idx C y bytes nL' rt' n) (hrm : fr + 1 ≤ R.frames ∧ 8 + (nL' + 11) + lo ≤ R.locals) (hn : As.length = n) (hst : st = As.reverse ++ .ref a :: rest) (hcat : (rest.map fun v => v.category).sum ≤ 8) (hsz : ls.size = nL) (hdg : decode cc pc = .ok (.invokevirtual idx, 3)) (hcs : cells ≤ R.cells ∧ slots ≤ R.slots)
    (kk : ∀ (H1 : Heap) (locs1 : List Loc), RC x K o.2 H1 → va_S (AC K0) s.heap H1 locs1 → W p l e R s m args below meth c0 H1 locs1 cells slots Q (F0 m (pc + 3) ls (.int o.1 :: rest))) : W p l e R s m args below meth c0 H locs cells slots Q (F0 m pc ls st) := by
  have hk : kd K a = c + 1 := by simpa using hk
  have hev := fun (U : State) (hU : U.heap = H) (hW : s.WarmedH U.vm) => CX.ev hS hU hW
  obtain ⟨hx, hb, hml, hown, hts, hE, hB, hr, hlk⟩ := CX
  subst hst
  refine va_calli (va_runV (As := As) (rest := rest) ⟨hx, hb, hml, hown, hts⟩ hM (hw.cw (rm := rmM fr lo) hts rfl rfl hrm) ⟨PCm_blind, hR.recv hC hE.1 hk, fun U hU hW => ⟨rfl, by rw [hU]; exact hR, hev U hU hW⟩⟩ rfl hn hsz rfl (lv_room hcat) hdg hcs) hS (fun q _ h => hL.AC q h) (fun q h => hL.AC q h) (fun r u t H1 locs1 ht hvm hw hB1 hz hk1 hS1 => ?_)
  rw [ht] at hB1
  subst hw; exact kk H1 locs1 hB1 hS1

theorem cr_callIs (CX : CC p s m args meth c0 x K0 own cc nL rt) (hR : RC x K M H) (hL : KLe K0 K) (hS : va_S (AC K0) s.heap H locs) {idx : Nat} {y : MethodName} {bytes : ByteArray} {nL' n fr lo : Nat} {rt' : Option FieldType} {As st : List Value} {o : Int32 × Cm} (hM : CtI l x y bytes nL' rt' fr lo As K M o) (hw : CWs own idx y bytes nL' rt' n) (hrm : fr + 1 ≤ R.frames ∧ 8 + (nL' + 11) + lo ≤ R.locals) (hn : As.length = n) (hst : st = As.reverse ++ rest) (hcat : (rest.map fun v => v.category).sum ≤ 8) (hsz : ls.size = nL) (hdg : decode cc pc = .ok (.invokestatic idx, 3)) (hcs : cells ≤ R.cells ∧ slots ≤ R.slots)
    (kk : ∀ (H1 : Heap) (locs1 : List Loc), RC x K o.2 H1 → va_S (AC K0) s.heap H1 locs1 → W p l e R s m args below meth c0 H1 locs1 cells slots Q (F0 m (pc + 3) ls (.int o.1 :: rest))) : W p l e R s m args below meth c0 H locs cells slots Q (F0 m pc ls st) := by
  have hev := fun (U : State) (hU : U.heap = H) (hW : s.WarmedH U.vm) => CX.ev hS hU hW
  obtain ⟨hx, hb, hml, hown, hts, hE, hB, hr, hlk⟩ := CX
  obtain ⟨h1, h2, h3, h5, hd⟩ := hw
  subst hst
  have hp : PreS s H (PCm x K M As) As := ⟨PCm_blind, fun U hU hW => ⟨rfl, by rw [hU]; exact hR, hev U hU hW⟩⟩
  rcases h1 with h1 | ⟨host, h1⟩
  · refine va_calli (va_runS (As := As) (rest := rest) ⟨hx, hb, hml, hown, hts⟩ hM (va_cwS (rm := rmM fr lo) n hts (lwg_good (fun w hw => ?_)) rfl rfl rfl hd hrm) hp rfl hn hsz rfl (lv_room hcat) hdg hcs) hS (fun q _ h => hL.AC q h) (fun q h => hL.AC q h) (fun r u t H1 locs1 ht hvm hw hB1 hz hk1 hS1 => ?_)
    · simp only [va_wsS, List.mem_append, List.mem_cons, List.not_mem_nil, or_false] at hw
      rcases hw with (rfl | rfl | rfl) | (rfl | hw)
      · exact h1
      · exact h2
      · exact h3
      · exact h5
      · exact hw
    · rw [ht] at hB1
      subst hw; exact kk H1 locs1 hB1 hS1
  · refine va_calli (va_runSN (As := As) (rest := rest) ⟨hx, hb, hml, hown, hts⟩ hM ⟨va_cnB (rm := rmM fr lo) n hts (lwg_good (wsM_in h5)) rfl rfl rfl (hE.2.1 _ h1) (hts _ h3) hd hrm, hts _ h2, trivial⟩ hp rfl hn hsz rfl (lv_room hcat) hdg hcs) hS (fun q _ h => hL.AC q h) (fun q h => hL.AC q h) (fun r u t H1 locs1 ht hvm hw hB1 hz hk1 hS1 => ?_)
    rw [ht] at hB1
    subst hw; exact kk H1 locs1 hB1 hS1

theorem cr_callLv (hC : KC c C T ty) (CX : CC p s m args meth c0 x K0 own cc nL rt) (hR : RC x K M H) (hL : KLe K0 K) (hS : va_S (AC K0) s.heap H locs) {idx : Nat} {y : MethodName} {bytes : ByteArray} {nL' n fr lo : Nat} {As st : List Value} {o : Int64 × Cm} {a : Nat} (hk : (kd K a == c + 1) = true) (hM : CtL l x y bytes nL' fr lo (.ref a :: As) K M o) (hw : CWv own idx C y bytes nL' (some .long) n) (hrm : fr + 1 ≤ R.frames ∧ 8 + (nL' + 11) + lo ≤ R.locals) (hn : As.length = n) (hst : st = As.reverse ++ .ref a :: rest) (hcat : (rest.map fun v => v.category).sum ≤ 8) (hsz : ls.size = nL) (hdg : decode cc pc = .ok (.invokevirtual idx, 3)) (hcs : cells ≤ R.cells ∧ slots ≤ R.slots)
    (kk : ∀ (H1 : Heap) (locs1 : List Loc), RC x K o.2 H1 → va_S (AC K0) s.heap H1 locs1 → W p l e R s m args below meth c0 H1 locs1 cells slots Q (F0 m (pc + 3) ls (.long o.1 :: rest))) : W p l e R s m args below meth c0 H locs cells slots Q (F0 m pc ls st) := by
  have hk : kd K a = c + 1 := by simpa using hk
  have hev := fun (U : State) (hU : U.heap = H) (hW : s.WarmedH U.vm) => CX.ev hS hU hW
  obtain ⟨hx, hb, hml, hown, hts, hE, hB, hr, hlk⟩ := CX
  subst hst
  refine va_calll (va_runV (As := As) (rest := rest) ⟨hx, hb, hml, hown, hts⟩ hM (hw.cw (rm := rmM fr lo) hts rfl rfl hrm) ⟨PCm_blind, hR.recv hC hE.1 hk, fun U hU hW => ⟨rfl, by rw [hU]; exact hR, hev U hU hW⟩⟩ rfl hn hsz rfl (lv_room hcat) hdg hcs) hS (fun q _ h => hL.AC q h) (fun q h => hL.AC q h) (fun r u t H1 locs1 ht hvm hw hB1 hz hk1 hS1 => ?_)
  rw [ht] at hB1
  subst hw; exact kk H1 locs1 hB1 hS1

theorem cr_callLs (CX : CC p s m args meth c0 x K0 own cc nL rt) (hR : RC x K M H) (hL : KLe K0 K) (hS : va_S (AC K0) s.heap H locs) {idx : Nat} {y : MethodName} {bytes : ByteArray} {nL' n fr lo : Nat} {As st : List Value} {o : Int64 × Cm} (hM : CtL l x y bytes nL' fr lo As K M o) (hw : CWs own idx y bytes nL' (some .long) n) (hrm : fr + 1 ≤ R.frames ∧ 8 + (nL' + 11) + lo ≤ R.locals) (hn : As.length = n) (hst : st = As.reverse ++ rest) (hcat : (rest.map fun v => v.category).sum ≤ 8) (hsz : ls.size = nL) (hdg : decode cc pc = .ok (.invokestatic idx, 3)) (hcs : cells ≤ R.cells ∧ slots ≤ R.slots)
    (kk : ∀ (H1 : Heap) (locs1 : List Loc), RC x K o.2 H1 → va_S (AC K0) s.heap H1 locs1 → W p l e R s m args below meth c0 H1 locs1 cells slots Q (F0 m (pc + 3) ls (.long o.1 :: rest))) : W p l e R s m args below meth c0 H locs cells slots Q (F0 m pc ls st) := by
  have hev := fun (U : State) (hU : U.heap = H) (hW : s.WarmedH U.vm) => CX.ev hS hU hW
  obtain ⟨hx, hb, hml, hown, hts, hE, hB, hr, hlk⟩ := CX
  obtain ⟨h1, h2, h3, h5, hd⟩ := hw
  subst hst
  have hp : PreS s H (PCm x K M As) As := ⟨PCm_blind, fun U hU hW => ⟨rfl, by rw [hU]; exact hR, hev U hU hW⟩⟩
  rcases h1 with h1 | ⟨host, h1⟩
  · refine va_calll (va_runS (As := As) (rest := rest) ⟨hx, hb, hml, hown, hts⟩ hM (va_cwS (rm := rmM fr lo) n hts (lwg_good (fun w hw => ?_)) rfl rfl rfl hd hrm) hp rfl hn hsz rfl (lv_room hcat) hdg hcs) hS (fun q _ h => hL.AC q h) (fun q h => hL.AC q h) (fun r u t H1 locs1 ht hvm hw hB1 hz hk1 hS1 => ?_)
    · simp only [va_wsS, List.mem_append, List.mem_cons, List.not_mem_nil, or_false] at hw
      rcases hw with (rfl | rfl | rfl) | (rfl | hw)
      · exact h1
      · exact h2
      · exact h3
      · exact h5
      · exact hw
    · rw [ht] at hB1
      subst hw; exact kk H1 locs1 hB1 hS1
  · refine va_calll (va_runSN (As := As) (rest := rest) ⟨hx, hb, hml, hown, hts⟩ hM ⟨va_cnB (rm := rmM fr lo) n hts (lwg_good (wsM_in h5)) rfl rfl rfl (hE.2.1 _ h1) (hts _ h3) hd hrm, hts _ h2, trivial⟩ hp rfl hn hsz rfl (lv_room hcat) hdg hcs) hS (fun q _ h => hL.AC q h) (fun q h => hL.AC q h) (fun r u t H1 locs1 ht hvm hw hB1 hz hk1 hS1 => ?_)
    rw [ht] at hB1
    subst hw; exact kk H1 locs1 hB1 hS1

/-! ends -/
theorem cr_vret (CX : CC p s m args meth c0 x K own cc nL none) (hR : RC x K M H) (hS : va_S (AC K) s.heap H locs) {o : Cm} (hf : some M = some o) (hdg : decode cc pc = .ok (.return_, 1)) :
    W p l e R s m args below meth c0 H locs 0 0 (MQ below (CQV x K o) args s 0 0 (AC K)) (F0 m pc ls []) := by
  obtain ⟨hx, hb, hml, hown, hts, hE, hB, hr, hlk⟩ := CX
  cases hf
  exact W.vret hx hb hr (fun t ht _ => ⟨⟨(), rfl, trivial, by show RC _ _ _ t.heap; rw [ht]; exact hR⟩, hS.F ht⟩) hS.2.2 hdg hlk
theorem cr_iret (CX : CC p s m args meth c0 x K own cc nL (some .int)) (hR : RC x K M H) (hS : va_S (AC K) s.heap H locs) {o : Int32 × Cm} {v : Int32} (hf : some (v, M) = some o) (hdg : decode cc pc = .ok (.ireturn, 1)) :
    W p l e R s m args below meth c0 H locs 0 0 (MQ below (CQI x K o) args s 0 0 (AC K)) (F0 m pc ls [.int v]) := by
  obtain ⟨hx, hb, hml, hown, hts, hE, hB, hr, hlk⟩ := CX
  cases hf
  exact W.iret hx hb hr (fun t ht _ => ⟨⟨v, (), rfl, rfl, by show RC _ _ _ t.heap; rw [ht]; exact hR⟩, hS.F ht⟩) hS.2.2 hdg hlk
theorem cr_zret (CX : CC p s m args meth c0 x K own cc nL (some .boolean)) (hR : RC x K M H) (hS : va_S (AC K) s.heap H locs) {o : Int32 × Cm} {v : Int32} (hv : is01 v = true) (hf : some (v, M) = some o) (hdg : decode cc pc = .ok (.ireturn, 1)) :
    W p l e R s m args below meth c0 H locs 0 0 (MQ below (CQI x K o) args s 0 0 (AC K)) (F0 m pc ls [.int v]) := by
  obtain ⟨hx, hb, hml, hown, hts, hE, hB, hr, hlk⟩ := CX
  cases hf
  exact W.zret hx hb hr (nar01 hv) (fun t ht _ => ⟨⟨v, (), rfl, rfl, by show RC _ _ _ t.heap; rw [ht]; exact hR⟩, hS.F ht⟩) hS.2.2 hdg hlk
theorem cr_lret (CX : CC p s m args meth c0 x K own cc nL (some .long)) (hR : RC x K M H) (hS : va_S (AC K) s.heap H locs) {o : Int64 × Cm} {v : Int64} (hf : some (v, M) = some o) (hdg : decode cc pc = .ok (.lreturn, 1)) :
    W p l e R s m args below meth c0 H locs 0 0 (MQ below (CQL x K o) args s 0 0 (AC K)) (F0 m pc ls [.long v]) := by
  obtain ⟨hx, hb, hml, hown, hts, hE, hB, hr, hlk⟩ := CX
  cases hf
  exact W.lret hx hb hr (fun t ht _ => ⟨⟨v, (), rfl, rfl, by show RC _ _ _ t.heap; rw [ht]; exact hR⟩, hS.F ht⟩) hS.2.2 hdg hlk
end CCALL
