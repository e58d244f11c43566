
/-! methods that make cells, and methods that throw -/
def kNew (K : Ka) (kind len sl : Nat) : Ka := (va_up K.1 (kz K) (kind, len), kz K + 1, ku K + sl)
def mZ (M : Cm) (a : Nat) : Cm := (va_up M.1 a (fun _ => 0), va_up M.2.1 a (fun _ => 0), va_up M.2.2 a (fun _ => none))
theorem kd_new (K : Ka) (kind len sl : Nat) : kd (kNew K kind len sl) (kz K) = kind := by simp [kd, kNew, va_up]
theorem le_new (K : Ka) (kind len sl : Nat) : le (kNew K kind len sl) (kz K) = len := by simp [le, kNew, va_up]
theorem kd_newo (K : Ka) (kind len sl : Nat) {a : Nat} (h : a ≠ kz K) : kd (kNew K kind len sl) a = kd K a := by simp [kd, kNew, va_up, h]
theorem le_newo (K : Ka) (kind len sl : Nat) {a : Nat} (h : a ≠ kz K) : le (kNew K kind len sl) a = le K a := by simp [le, kNew, va_up, h]
theorem kNew_le (K : Ka) (kind len sl : Nat) : KLe K (kNew K kind len sl) := by
  refine ⟨Nat.le_succ _, Nat.le_add_right _ _, fun a ha => ?_⟩
  by_cases h : a = kz K
  · exact Or.inr (Nat.le_of_eq h.symm)
  · rw [kd_newo K kind len sl h] at ha
    exact Or.inl ha
theorem cI_mZ (M : Cm) {a b : Nat} (h : b ≠ a) : cI (mZ M a) b = cI M b := by funext i; simp [cI, mZ, va_up, h]
theorem cL_mZ (M : Cm) {a b : Nat} (h : b ≠ a) : cL (mZ M a) b = cL M b := by funext i; simp [cL, mZ, va_up, h]
theorem cR_mZ (M : Cm) {a b : Nat} (h : b ≠ a) : cR (mZ M a) b = cR M b := by funext i; simp [cR, mZ, va_up, h]
theorem cI_mZs (M : Cm) (a : Nat) : cI (mZ M a) a = fun _ => 0 := by funext i; simp [cI, mZ, va_up]
theorem cL_mZs (M : Cm) (a : Nat) : cL (mZ M a) a = fun _ => 0 := by funext i; simp [cL, mZ, va_up]
theorem cR_mZs (M : Cm) (a : Nat) : cR (mZ M a) a = fun _ => none := by funext i; simp [cR, mZ, va_up]
theorem cel_newo {d : Dd} {K : Ka} {M : Cm} {kind len sl a : Nat} (h : a ≠ kz K) : cel d (kNew K kind len sl) (mZ M (kz K)) a = cel d K M a := by
  have e : cel d (kNew K kind len sl) (mZ M (kz K)) a = cel d (kNew K kind len sl) M a := cel_same (cI_mZ M h) (cL_mZ M h) (cR_mZ M h)
  rw [e]
  simp only [cel, kd_newo K kind len sl h, le_newo K kind len sl h]
theorem RC.push {x : Xc} {K : Ka} {M : Cm} {H H1 : Heap} (h : RC x K M H) {kind len sl : Nat} (hz : H1.size = H.size + 1) (ho : ∀ q : Nat, q < H.size → H1[q]? = H[q]?) (hat : va_at x.1.1 vwCl (kz K, cel x.1 (kNew K kind len sl) (mZ M (kz K)) (kz K)) H1) : RC x (kNew K kind len sl) (mZ M (kz K)) H1 := by
  refine ⟨by rw [hz, h.1]; rfl, Nat.le_trans h.2.1 (Nat.le_succ _), fun a ha => ?_⟩
  by_cases e : a = kz K
  · subst e
    exact ⟨h.2.1, hat⟩
  · rw [kd_newo K kind len sl e] at ha
    refine ⟨(h.2.2 a ha).1, ?_⟩
    rw [cel_newo e]
    have h2 := (h.2.2 a ha).2
    exact h2.kept (ho a h2.lt)
/-- default values of a class's fields -/
def DF (c : Nat) (ty : Nat → FieldType) : Prop := ∀ k, k < cN c → defaultValue (ty k) = if cRf c k = true then .null else .int 0
theorem df_0 : DF 0 tyX0 := by unfold DF; decide +kernel
theorem df_1 : DF 1 tyX1 := by unfold DF; decide +kernel
theorem df_2 : DF 2 tyX2 := by unfold DF; decide +kernel
theorem df_3 : DF 3 tyX3 := by unfold DF; decide +kernel
theorem df_4 : DF 4 tyX4 := by unfold DF; decide +kernel
theorem df_5 : DF 5 tyX5 := by unfold DF; decide +kernel
theorem df_6 : DF 6 tyX6 := by unfold DF; decide +kernel
theorem df_7 : DF 7 tyX7 := by unfold DF; decide +kernel
theorem df_8 : DF 8 tyX8 := by unfold DF; decide +kernel
theorem df_9 : DF 9 tyX9 := by unfold DF; decide +kernel
/-- a thrown exception's world: the heap has grown -/
def kX (K : Ka) : Ka := (K.1, kz K + 1, ku K + 6)
def RCx (x : Xc) (q : Ka × Cm) (H : Heap) : Prop := RC x (kX q.1) q.2 H
def XT (exn : String) (x : Xc) (K : Ka) (q : Ka × Cm) : String → State → State → Prop := vx_X (fun _ : Unit => True) (fun E _ t => E = exn ∧ RCx x q t.heap) (AC K)
abbrev rmA (fr lo mc ms : Nat) : Room := { frames := fr, cells := mc, slots := ms, locals := lo }
def aQV (x : Xc) (K : Ka) (r : Ka × Cm) : Array Value → State → Outcome → State → Prop := va_Qv (fun _ : Unit => True) (fun _ t => RC x r.1 r.2 t.heap) (AC K)
def aQI (x : Xc) (K : Ka) (r : Int32 × Ka × Cm) : Array Value → State → Outcome → State → Prop := va_Qi (fun (y : Int32) (_ : Unit) => y = r.1) (fun _ t => RC x r.2.1 r.2.2 t.heap) (AC K)
def aQL (x : Xc) (K : Ka) (r : Int64 × Ka × Cm) : Array Value → State → Outcome → State → Prop := va_Ql (fun (y : Int64) (_ : Unit) => y = r.1) (fun _ t => RC x r.2.1 r.2.2 t.heap) (AC K)
def aQA (x : Xc) (K : Ka) (r : Nat × Ka × Cm) : Array Value → State → Outcome → State → Prop := va_Qr (fun _ : Unit => True) (fun _ a t => a = r.1 ∧ RC x r.2.1 r.2.2 t.heap) (AC K)
def zQV (K : Ka) : Array Value → State → Outcome → State → Prop := va_Qv (fun _ : Unit => False) (fun _ _ => True) (AC K)
def zQI (K : Ka) : Array Value → State → Outcome → State → Prop := va_Qi (fun (_ : Int32) (_ : Unit) => False) (fun _ _ => True) (AC K)
def zQL (K : Ka) : Array Value → State → Outcome → State → Prop := va_Ql (fun (_ : Int64) (_ : Unit) => False) (fun _ _ => True) (AC K)
def oK {α : Type} (st : α → Ka × Cm) : α ⊕ (Ka × Cm) → Ka
  | .inl r => (st r).1
  | .inr q => q.1
def nz {α : Type} (st : α → Ka × Cm) (K0 : Ka) : α ⊕ (Ka × Cm) → Nat
  | .inl r => kz (st r).1 - kz K0
  | .inr q => kz q.1 - kz K0 + 1
def nu {α : Type} (st : α → Ka × Cm) (K0 : Ka) : α ⊕ (Ka × Cm) → Nat
  | .inl r => ku (st r).1 - ku K0
  | .inr q => ku q.1 - ku K0 + 6
theorem nz_le {α : Type} {st : α → Ka × Cm} {K0 K : Ka} {o : α ⊕ (Ka × Cm)} {R : Room} (h : KLe K (oK st o)) (hR : nz st K0 o ≤ R.cells ∧ nu st K0 o ≤ R.slots) : kz K - kz K0 ≤ R.cells ∧ ku K - ku K0 ≤ R.slots := by
  obtain ⟨h1, h2, -⟩ := h
  cases o with
  | inl r => simp only [oK, nz, nu] at *; omega
  | inr q => simp only [oK, nz, nu] at *; omega
def TQ {α : Type} (st : α → Ka × Cm) (qr : α → Array Value → State → Outcome → State → Prop) (qz : Array Value → State → Outcome → State → Prop) (exn : String) (x : Xc) (K0 : Ka) (below : List Frame) (args : Array Value) (s : State) : α ⊕ (Ka × Cm) → State → Prop
  | .inl r => MQ below (qr r) args s (kz (st r).1 - kz K0) (ku (st r).1 - ku K0) (AC K0)
  | .inr q => vx_MQ below qz (XT exn x K0 q) args s (kz q.1 - kz K0 + 1) (ku q.1 - ku K0 + 6) (AC K0)
def Tc {α : Type} (st : α → Ka × Cm) (qr : α → Array Value → State → Outcome → State → Prop) (qz : Array Value → State → Outcome → State → Prop) (exn : String) (l : Launch) (x : Xc) (y : MethodName) (bytes : ByteArray) (nL : Nat) (rt : Option FieldType) (fr lo : Nat) (av : List Value) (K : Ka) (M : Cm) : α ⊕ (Ka × Cm) → Prop
  | .inl r => Met l y (wsM y bytes nL rt) (rmA fr lo (kz (st r).1 - kz K) (ku (st r).1 - ku K)) (PCm x K M av) (qr r) (kz (st r).1 - kz K) (ku (st r).1 - ku K) (AC K)
  | .inr q => vx_Met l y (wsM y bytes nL rt) (rmA fr lo (kz q.1 - kz K + 1) (ku q.1 - ku K + 6)) (PCm x K M av) qz (XT exn x K q) (kz q.1 - kz K + 1) (ku q.1 - ku K + 6) (AC K)
abbrev sV : Ka × Cm → Ka × Cm := id
abbrev sT {β : Type} : β × Ka × Cm → Ka × Cm := fun r => r.2
/-- .. and what a walk of such a method stands on -/
def CT (p : Program) (l : Launch) (s : State) (m : MethodId) (args : Array Value) (meth : Method) (c : Code) (x : Xc) (K0 : Ka) (own : String) (nm : String) (cc : ByteArray) (nL : Nat) (rt : Option FieldType) : Prop :=
  CC p s m args meth c x K0 own cc nL rt ∧ (∀ z ∈ c.exceptionTable.toList, False) ∧ l.stackTraces = false ∧ meth.name = nm
def tb {α β : Type} (v : Option (α ⊕ (Ka × Cm))) (k : α → Option (β ⊕ (Ka × Cm))) : Option (β ⊕ (Ka × Cm)) := match v with
  | some (.inl a) => k a
  | some (.inr q) => some (.inr q)
  | none => none
theorem tb_some {α β : Type} {v : Option (α ⊕ (Ka × Cm))} {k : α → Option (β ⊕ (Ka × Cm))} {o : β ⊕ (Ka × Cm)} (h : tb v k = some o) : (∃ a, v = some (.inl a) ∧ k a = some o) ∨ ∃ q, v = some (.inr q) ∧ o = .inr q := by
  match v, h with
  | some (.inl a), h => exact Or.inl ⟨a, rfl, h⟩
  | some (.inr q), h => exact Or.inr ⟨q, rfl, (Option.some.inj h).symm⟩
  | none, h => cases h
def ta {α β : Type} (v : Option (α ⊕ (Ka × Cm))) (k : α → Option (β ⊕ (Ka × Cm))) : Option (β ⊕ (Ka × Cm)) := match v with
  | some (.inl a) => k a
  | _ => none
theorem ta_some {α β : Type} {v : Option (α ⊕ (Ka × Cm))} {k : α → Option (β ⊕ (Ka × Cm))} {o : β ⊕ (Ka × Cm)} (h : ta v k = some o) : ∃ a, v = some (.inl a) ∧ k a = some o := by
  match v, h with
  | some (.inl a), h => exact ⟨a, rfl, h⟩
  | some (.inr q), h => cases h
  | none, h => cases h
theorem tr_met {α : Type} {st : α → Ka × Cm} {qr : α → Array Value → State → Outcome → State → Prop} {qz : Array Value → State → Outcome → State → Prop} {exn : String} {l : Launch} {x : Xc} {K : Ka} {M : Cm} {y : MethodName} {bytes : ByteArray} {nL fr lo : Nat} {rt : Option FieldType} {av : List Value} {o : α ⊕ (Ka × Cm)} (own nm : String) (hlt : l.stackTraces = false) (hy : plainName y.cls = true) (hyc : y.cls = own) (hyn : y.name = nm) (hlen : (lg_sl av).length ≤ nL)
    (body : ∀ (p : Program) (e : Env) (s : State) (m : MethodId) (args : Array Value) (below : List Frame) (meth : Method) (c : Code) (ls : Array Slot), CT p l s m args meth c x K own nm bytes nL rt → RC x K M s.heap → lv_has ls nL (lv_args 0 av) → W p l e (rmA fr lo (nz st K o) (nu st K o)) s m args below meth c s.heap [] (kz K - kz K) (ku K - ku K) (TQ st qr qz exn x K below args s o) (F0 m 0 ls [])) : Tc st qr qz exn l x y bytes nL rt fr lo av K M o := by
  have ez : kz K - kz K = 0 := Nat.sub_self _
  have eu : ku K - ku K = 0 := Nat.sub_self _
  cases o with
  | inl r =>
    refine Met.ofW (cc := bytes) (maxL := nL) (ret := rt) hy rfl ?_
    intro p e s m args below meth c s₁ B hml hv
    obtain ⟨rfl, hR, hE⟩ := hv
    have hts := atoms_spec (ws := wsM y bytes nL rt) B.pre
    have hown : s.vm.findClass own = some m.cls := hyc ▸ findClass_of_methodNamed B.named
    have hno : ∀ z ∈ c.exceptionTable.toList, False := by
      obtain ⟨meth9, c9, h1, h2, -, -, -, -, h7, -⟩ := Cond.code_spec B.named (hts _ List.mem_cons_self)
      cases Option.some.inj (h1.symm.trans B.method)
      cases Option.some.inj (h2.symm.trans (Stand.of_body B).code)
      intro z hz
      rw [Array.isEmpty_iff.mp h7] at hz
      cases hz
    have hl := lv_entry av (n := nL) hlen
    rw [lg_entry_eq]
    have hw := body p e s m _ below meth c _ ⟨⟨B.exec, B.bytes, hml, hown, fun w hw => hts w (List.mem_cons_of_mem _ hw), hE, fun q z => z.elim (fun y => (hR.2.2 q y).1) (fun y => Nat.le_trans hR.2.1 y), B.returns, B.notSynchronized⟩, hno, hlt, ((name_of_methodNamed B.named B.method).1).trans hyn⟩ hR hl
    rw [ez, eu] at hw
    exact hw
  | inr q =>
    refine vx_ofW (cc := bytes) (maxL := nL) (ret := rt) hy rfl ?_
    intro p e s m args below meth c s₁ B hml hno hv
    obtain ⟨rfl, hR, hE⟩ := hv
    have hts := atoms_spec (ws := wsM y bytes nL rt) B.pre
    have hown : s.vm.findClass own = some m.cls := hyc ▸ findClass_of_methodNamed B.named
    have hl := lv_entry av (n := nL) hlen
    rw [lg_entry_eq]
    have hw := body p e s m _ below meth c _ ⟨⟨B.exec, B.bytes, hml, hown, fun w hw => hts w (List.mem_cons_of_mem _ hw), hE, fun q z => z.elim (fun y => (hR.2.2 q y).1) (fun y => Nat.le_trans hR.2.1 y), B.returns, B.notSynchronized⟩, hno, hlt, ((name_of_methodNamed B.named B.method).1).trans hyn⟩ hR hl
    rw [ez, eu] at hw
    exact hw
section TROWS
variable {p : Program} {l : Launch} {e : Env} {R : Room} {s : State} {m : MethodId} {args : Array Value} {below : List Frame} {meth : Method} {c0 : Code} {H : Heap} {locs : List Loc} {Q : State → Prop}
variable {cc : ByteArray} {nL : Nat} {rt : Option FieldType} {x : Xc} {K0 K : Ka} {M : Cm} {own nm C : String} {T : u_T} {ty : Nat → FieldType} {c : Nat} {pc : Nat} {ls : Array Slot} {rest : List Value} {exn : String}
/-! ends -/
theorem tr_vret (CX : CC p s m args meth c0 x K0 own cc nL none) (hR : RC x K M H) (hS : va_S (AC K0) s.heap H locs) {o : (Ka × Cm) ⊕ (Ka × Cm)} (hf : some (Sum.inl (K, M)) = some o) (hdg : decode cc pc = .ok (.return_, 1)) :
    W p l e R s m args below meth c0 H locs (kz K - kz K0) (ku K - ku K0) (TQ sV (aQV x K0) (zQV K0) exn x K0 below args s o) (F0 m pc ls []) := by
  obtain ⟨hx, hb, hml, hown, hts, hE, hB, hr, hlk⟩ := CX
  cases hf
  exact W.vret hx hb hr (fun t ht _ => ⟨⟨(), rfl, trivial, by show RC _ _ _ t.heap; rw [ht]; exact hR⟩, hS.F ht⟩) hS.2.2 hdg hlk
theorem tr_iret (CX : CC p s m args meth c0 x K0 own cc nL (some .int)) (hR : RC x K M H) (hS : va_S (AC K0) s.heap H locs) {o : (Int32 × Ka × Cm) ⊕ (Ka × Cm)} {v : Int32} (hf : some (Sum.inl (v, K, M)) = some o) (hdg : decode cc pc = .ok (.ireturn, 1)) :
    W p l e R s m args below meth c0 H locs (kz K - kz K0) (ku K - ku K0) (TQ sT (aQI x K0) (zQV K0) exn x K0 below args s o) (F0 m pc ls [.int v]) := by
  obtain ⟨hx, hb, hml, hown, hts, hE, hB, hr, hlk⟩ := CX
  cases hf
  exact W.iret hx hb hr (fun t ht _ => ⟨⟨v, (), rfl, rfl, by show RC _ _ _ t.heap; rw [ht]; exact hR⟩, hS.F ht⟩) hS.2.2 hdg hlk
theorem tr_zret (CX : CC p s m args meth c0 x K0 own cc nL (some .boolean)) (hR : RC x K M H) (hS : va_S (AC K0) s.heap H locs) {o : (Int32 × Ka × Cm) ⊕ (Ka × Cm)} {v : Int32} (hv : is01 v = true) (hf : some (Sum.inl (v, K, M)) = some o) (hdg : decode cc pc = .ok (.ireturn, 1)) :
    W p l e R s m args below meth c0 H locs (kz K - kz K0) (ku K - ku K0) (TQ sT (aQI x K0) (zQV K0) exn x K0 below args s o) (F0 m pc ls [.int v]) := by
  obtain ⟨hx, hb, hml, hown, hts, hE, hB, hr, hlk⟩ := CX
  cases hf
  exact W.zret hx hb hr (nar01 hv) (fun t ht _ => ⟨⟨v, (), rfl, rfl, by show RC _ _ _ t.heap; rw [ht]; exact hR⟩, hS.F ht⟩) hS.2.2 hdg hlk
theorem tr_lret (CX : CC p s m args meth c0 x K0 own cc nL (some .long)) (hR : RC x K M H) (hS : va_S (AC K0) s.heap H locs) {o : (Int64 × Ka × Cm) ⊕ (Ka × Cm)} {v : Int64} (hf : some (Sum.inl (v, K, M)) = some o) (hdg : decode cc pc = .ok (.lreturn, 1)) :
    W p l e R s m args below meth c0 H locs (kz K - kz K0) (ku K - ku K0) (TQ sT (aQL x K0) (zQV K0) exn x K0 below args s o) (F0 m pc ls [.long v]) := by
  obtain ⟨hx, hb, hml, hown, hts, hE, hB, hr, hlk⟩ := CX
  cases hf
  exact W.lret hx hb hr (fun t ht _ => ⟨⟨v, (), rfl, rfl, by show RC _ _ _ t.heap; rw [ht]; exact hR⟩, hS.F ht⟩) hS.2.2 hdg hlk
theorem tr_aret (CX : CC p s m args meth c0 x K0 own cc nL rt) {t1 : FieldType} (hrt : rt = some t1 ∧ ((∃ n, t1 = .object n) ∨ ∃ t, t1 = .array t)) (hR : RC x K M H) (hS : va_S (AC K0) s.heap H locs) {o : (Nat × Ka × Cm) ⊕ (Ka × Cm)} {v : Nat} (hf : some (Sum.inl (v, K, M)) = some o) (hdg : decode cc pc = .ok (.areturn, 1)) :
    W p l e R s m args below meth c0 H locs (kz K - kz K0) (ku K - ku K0) (TQ sT (aQA x K0) (zQV K0) exn x K0 below args s o) (F0 m pc ls [.ref v]) := by
  obtain ⟨hx, hb, hml, hown, hts, hE, hB, hr, hlk⟩ := CX
  cases hf
  exact W.aret hx hb (hr.trans hrt.1) hrt.2 (Or.inr ⟨v, rfl⟩) (fun t ht _ => ⟨⟨(), v, rfl, trivial, rfl, by show RC _ _ _ t.heap; rw [ht]; exact hR⟩, hS.F ht⟩) hS.2.2 hdg hlk
/-! new cells -/
theorem va_S.grow {A : Nat → Prop} {H0 H H1 : Heap} (hS : va_S A H0 H locs) (hz : H.size ≤ H1.size) (ho : ∀ q : Nat, q < H.size → H1[q]? = H[q]?) : va_S A H0 H1 locs := ⟨Nat.le_trans hS.1 hz, fun q h1 h2 => (ho q (Nat.lt_of_lt_of_le h1 hS.1)).trans (hS.2.1 q h1 h2), hS.2.2⟩
def CN (own : String) (idx : Nat) (C : String) (n : Nat) : Prop := Cond.classLink own idx C ∈ lwg ∧ Cond.instantiable C n ∈ lwg ∧ Cond.initialized C ∈ lwg
theorem tr_new (hC : KC c C T ty) (hD : DF c ty) (CX : CC p s m args meth c0 x K0 own cc nL rt) (hL : KLe K0 K) (hR : RC x K M H) (hS : va_S (AC K0) s.heap H locs) {idx : Nat} (hw : CN own idx C (cN c)) (hbud : kz (kNew K (c + 1) 0 (cN c)) - kz K0 ≤ R.cells ∧ ku (kNew K (c + 1) 0 (cN c)) - ku K0 ≤ R.slots) (hdg : decode cc pc = .ok (.new idx, 3))
    (kk : ∀ (H1 : Heap), RC x (kNew K (c + 1) 0 (cN c)) (mZ M (kz K)) H1 → va_S (AC K0) s.heap H1 locs → W p l e R s m args below meth c0 H1 locs (kz (kNew K (c + 1) 0 (cN c)) - kz K0) (ku (kNew K (c + 1) 0 (cN c)) - ku K0) Q (F0 m (pc + 3) ls (.ref (kz K) :: rest))) : W p l e R s m args below meth c0 H locs (kz K - kz K0) (ku K - ku K0) Q (F0 m pc ls rest) := by
  obtain ⟨hx, hb, hml, hown, hts, hE, hB, hr, hlk⟩ := CX
  obtain ⟨h9, hc, hin, hty, hnm⟩ := hC
  obtain ⟨w1, w2, w3⟩ := hw
  have hKn := hE.1.1 c _ hc
  have l1 := hL.1
  have l2 := hL.2.1
  have e1 : kz K - kz K0 + 1 = kz (kNew K (c + 1) 0 (cN c)) - kz K0 := by show kz K - kz K0 + 1 = kz K + 1 - kz K0; omega
  have e2 : ku K - ku K0 + cN c = ku (kNew K (c + 1) 0 (cN c)) - ku K0 := by show ku K - ku K0 + cN c = ku K + cN c - ku K0; omega
  refine W.newcK hx hb hown (hts _ w1) (hts _ w2) (hts _ w3) rfl hdg (by rw [e1]; exact hbud.1) (by rw [e2]; exact hbud.2) hKn.2.1 hR.1 fun H1 kC hkC g1 g2 g3 => ?_
  rw [e1, e2]
  have z1 : H1.size = H.size + 1 := by rw [g2, hR.1]
  have o1 : ∀ q : Nat, q < H.size → H1[q]? = H[q]? := fun q hq => g3 q (by rw [← hR.1]; exact hq)
  refine kk H1 (hR.push z1 o1 ?_) (hS.grow (by omega) o1)
  rw [cel_obj (kd_new _ _ _ _) h9]
  refine ⟨_, hc, (u_born ty hts hin hKn hkC g1 hty).to (fun j hj => ?_)⟩
  show defaultValue (ty j) = vp_V (fldC c (mZ M (kz K)) (kz K)) j
  rw [hD j hj, vp_V, List.getD_eq_getElem?_getD, fldC_get c _ _ hj]
  simp only [Option.getD_some, fvC, cI_mZs, cR_mZs]
  cases cRf c j <;> rfl

theorem wa_i : Cond.arrayClass .int ∈ lwg := lwg_in 243 (by decide +kernel) (by decide +kernel)
theorem tr_newai (CX : CC p s m args meth c0 x K0 own cc nL rt) (hL : KLe K0 K) (hR : RC x K M H) (hS : va_S (AC K0) s.heap H locs) {n : Int32} (hn : decide (¬ n < 0 ∧ n.toNatClampNeg ≤ 1000000) = true) (hbud : kz (kNew K 22 n.toNatClampNeg n.toNatClampNeg) - kz K0 ≤ R.cells ∧ ku (kNew K 22 n.toNatClampNeg n.toNatClampNeg) - ku K0 ≤ R.slots) (hdg : decode cc pc = .ok (.newarray .int, 2))
    (kk : ∀ (H1 : Heap), RC x (kNew K 22 n.toNatClampNeg n.toNatClampNeg) (mZ M (kz K)) H1 → va_S (AC K0) s.heap H1 locs → W p l e R s m args below meth c0 H1 locs (kz (kNew K 22 n.toNatClampNeg n.toNatClampNeg) - kz K0) (ku (kNew K 22 n.toNatClampNeg n.toNatClampNeg) - ku K0) Q (F0 m (pc + 2) ls (.ref (kz K) :: rest))) : W p l e R s m args below meth c0 H locs (kz K - kz K0) (ku K - ku K0) Q (F0 m pc ls (.int n :: rest)) := by
  obtain ⟨hx, hb, hml, hown, hts, hE, hB, hr, hlk⟩ := CX
  obtain ⟨n0, n1⟩ := of_decide_eq_true hn
  have l1 := hL.1
  have l2 := hL.2.1
  generalize hN : n.toNatClampNeg = N at hbud kk n1
  have e1 : kz K - kz K0 + 1 = kz (kNew K 22 N N) - kz K0 := by show kz K - kz K0 + 1 = kz K + 1 - kz K0; omega
  have e2 : ku K - ku K0 + N = ku (kNew K 22 N N) - ku K0 := by show ku K - ku K0 + N = ku K + N - ku K0; omega
  refine va_newaK (atype := .int) hx hb (hts _ wa_i) rfl hdg rfl n0 hN (by show N * _ ≤ 536870912; simp [newarray.typeOf, componentBytes]; omega) (by rw [e1]; exact hbud.1) (by rw [e2]; exact hbud.2) hR.1 fun H1 cA g1 g2 g3 g4 g5 => ?_
  rw [e1, e2]
  have hcA : cA = x.1.2 1 := by
    have h := (hE.1.2 1 _ rfl).2
    exact Option.some.inj (g5.symm.trans h)
  subst hcA
  have z1 : H1.size = H.size + 1 := by rw [g2, hR.1]
  have o1 : ∀ q : Nat, q < H.size → H1[q]? = H[q]? := fun q hq => g3 q (by rw [← hR.1]; exact hq)
  refine kk H1 (hR.push z1 o1 ?_) (hS.grow (by omega) o1)
  rw [cel_i (kd_new _ _ _ _), le_new, cI_mZs]
  exact g1

theorem wa_l : Cond.arrayClass .long ∈ lwg := lwg_in 244 (by decide +kernel) (by decide +kernel)
theorem tr_newal (CX : CC p s m args meth c0 x K0 own cc nL rt) (hL : KLe K0 K) (hR : RC x K M H) (hS : va_S (AC K0) s.heap H locs) {n : Int32} (hn : decide (¬ n < 0 ∧ n.toNatClampNeg ≤ 1000000) = true) (hbud : kz (kNew K 23 n.toNatClampNeg n.toNatClampNeg) - kz K0 ≤ R.cells ∧ ku (kNew K 23 n.toNatClampNeg n.toNatClampNeg) - ku K0 ≤ R.slots) (hdg : decode cc pc = .ok (.newarray .long, 2))
    (kk : ∀ (H1 : Heap), RC x (kNew K 23 n.toNatClampNeg n.toNatClampNeg) (mZ M (kz K)) H1 → va_S (AC K0) s.heap H1 locs → W p l e R s m args below meth c0 H1 locs (kz (kNew K 23 n.toNatClampNeg n.toNatClampNeg) - kz K0) (ku (kNew K 23 n.toNatClampNeg n.toNatClampNeg) - ku K0) Q (F0 m (pc + 2) ls (.ref (kz K) :: rest))) : W p l e R s m args below meth c0 H locs (kz K - kz K0) (ku K - ku K0) Q (F0 m pc ls (.int n :: rest)) := by
  obtain ⟨hx, hb, hml, hown, hts, hE, hB, hr, hlk⟩ := CX
  obtain ⟨n0, n1⟩ := of_decide_eq_true hn
  have l1 := hL.1
  have l2 := hL.2.1
  generalize hN : n.toNatClampNeg = N at hbud kk n1
  have e1 : kz K - kz K0 + 1 = kz (kNew K 23 N N) - kz K0 := by show kz K - kz K0 + 1 = kz K + 1 - kz K0; omega
  have e2 : ku K - ku K0 + N = ku (kNew K 23 N N) - ku K0 := by show ku K - ku K0 + N = ku K + N - ku K0; omega
  refine va_newaK (atype := .long) hx hb (hts _ wa_l) rfl hdg rfl n0 hN (by show N * _ ≤ 536870912; simp [newarray.typeOf, componentBytes]; omega) (by rw [e1]; exact hbud.1) (by rw [e2]; exact hbud.2) hR.1 fun H1 cA g1 g2 g3 g4 g5 => ?_
  rw [e1, e2]
  have hcA : cA = x.1.2 2 := by
    have h := (hE.1.2 2 _ rfl).2
    exact Option.some.inj (g5.symm.trans h)
  subst hcA
  have z1 : H1.size = H.size + 1 := by rw [g2, hR.1]
  have o1 : ∀ q : Nat, q < H.size → H1[q]? = H[q]? := fun q hq => g3 q (by rw [← hR.1]; exact hq)
  refine kk H1 (hR.push z1 o1 ?_) (hS.grow (by omega) o1)
  rw [cel_l (kd_new _ _ _ _), le_new, cL_mZs]
  exact g1

theorem wa_c : Cond.arrayClass .char ∈ lwg := lwg_in 242 (by decide +kernel) (by decide +kernel)
theorem tr_newac (CX : CC p s m args meth c0 x K0 own cc nL rt) (hL : KLe K0 K) (hR : RC x K M H) (hS : va_S (AC K0) s.heap H locs) {n : Int32} (hn : decide (¬ n < 0 ∧ n.toNatClampNeg ≤ 1000000) = true) (hbud : kz (kNew K 21 n.toNatClampNeg n.toNatClampNeg) - kz K0 ≤ R.cells ∧ ku (kNew K 21 n.toNatClampNeg n.toNatClampNeg) - ku K0 ≤ R.slots) (hdg : decode cc pc = .ok (.newarray .char, 2))
    (kk : ∀ (H1 : Heap), RC x (kNew K 21 n.toNatClampNeg n.toNatClampNeg) (mZ M (kz K)) H1 → va_S (AC K0) s.heap H1 locs → W p l e R s m args below meth c0 H1 locs (kz (kNew K 21 n.toNatClampNeg n.toNatClampNeg) - kz K0) (ku (kNew K 21 n.toNatClampNeg n.toNatClampNeg) - ku K0) Q (F0 m (pc + 2) ls (.ref (kz K) :: rest))) : W p l e R s m args below meth c0 H locs (kz K - kz K0) (ku K - ku K0) Q (F0 m pc ls (.int n :: rest)) := by
  obtain ⟨hx, hb, hml, hown, hts, hE, hB, hr, hlk⟩ := CX
  obtain ⟨n0, n1⟩ := of_decide_eq_true hn
  have l1 := hL.1
  have l2 := hL.2.1
  generalize hN : n.toNatClampNeg = N at hbud kk n1
  have e1 : kz K - kz K0 + 1 = kz (kNew K 21 N N) - kz K0 := by show kz K - kz K0 + 1 = kz K + 1 - kz K0; omega
  have e2 : ku K - ku K0 + N = ku (kNew K 21 N N) - ku K0 := by show ku K - ku K0 + N = ku K + N - ku K0; omega
  refine va_newaK (atype := .char) hx hb (hts _ wa_c) rfl hdg rfl n0 hN (by show N * _ ≤ 536870912; simp [newarray.typeOf, componentBytes]; omega) (by rw [e1]; exact hbud.1) (by rw [e2]; exact hbud.2) hR.1 fun H1 cA g1 g2 g3 g4 g5 => ?_
  rw [e1, e2]
  have hcA : cA = x.1.2 0 := by
    have h := (hE.1.2 0 _ rfl).2
    exact Option.some.inj (g5.symm.trans h)
  subst hcA
  have z1 : H1.size = H.size + 1 := by rw [g2, hR.1]
  have o1 : ∀ q : Nat, q < H.size → H1[q]? = H[q]? := fun q hq => g3 q (by rw [← hR.1]; exact hq)
  refine kk H1 (hR.push z1 o1 ?_) (hS.grow (by omega) o1)
  rw [cel_c (kd_new _ _ _ _), le_new, cI_mZs]
  exact g1

theorem wa_z : Cond.arrayClass .boolean ∈ lwg := lwg_in 867 (by decide +kernel) (by decide +kernel)
theorem tr_newaz (CX : CC p s m args meth c0 x K0 own cc nL rt) (hL : KLe K0 K) (hR : RC x K M H) (hS : va_S (AC K0) s.heap H locs) {n : Int32} (hn : decide (¬ n < 0 ∧ n.toNatClampNeg ≤ 1000000) = true) (hbud : kz (kNew K 24 n.toNatClampNeg n.toNatClampNeg) - kz K0 ≤ R.cells ∧ ku (kNew K 24 n.toNatClampNeg n.toNatClampNeg) - ku K0 ≤ R.slots) (hdg : decode cc pc = .ok (.newarray .boolean, 2))
    (kk : ∀ (H1 : Heap), RC x (kNew K 24 n.toNatClampNeg n.toNatClampNeg) (mZ M (kz K)) H1 → va_S (AC K0) s.heap H1 locs → W p l e R s m args below meth c0 H1 locs (kz (kNew K 24 n.toNatClampNeg n.toNatClampNeg) - kz K0) (ku (kNew K 24 n.toNatClampNeg n.toNatClampNeg) - ku K0) Q (F0 m (pc + 2) ls (.ref (kz K) :: rest))) : W p l e R s m args below meth c0 H locs (kz K - kz K0) (ku K - ku K0) Q (F0 m pc ls (.int n :: rest)) := by
  obtain ⟨hx, hb, hml, hown, hts, hE, hB, hr, hlk⟩ := CX
  obtain ⟨n0, n1⟩ := of_decide_eq_true hn
  have l1 := hL.1
  have l2 := hL.2.1
  generalize hN : n.toNatClampNeg = N at hbud kk n1
  have e1 : kz K - kz K0 + 1 = kz (kNew K 24 N N) - kz K0 := by show kz K - kz K0 + 1 = kz K + 1 - kz K0; omega
  have e2 : ku K - ku K0 + N = ku (kNew K 24 N N) - ku K0 := by show ku K - ku K0 + N = ku K + N - ku K0; omega
  refine va_newaK (atype := .boolean) hx hb (hts _ wa_z) rfl hdg rfl n0 hN (by show N * _ ≤ 536870912; simp [newarray.typeOf, componentBytes]; omega) (by rw [e1]; exact hbud.1) (by rw [e2]; exact hbud.2) hR.1 fun H1 cA g1 g2 g3 g4 g5 => ?_
  rw [e1, e2]
  have hcA : cA = x.1.2 3 := by
    have h := (hE.1.2 3 _ rfl).2
    exact Option.some.inj (g5.symm.trans h)
  subst hcA
  have z1 : H1.size = H.size + 1 := by rw [g2, hR.1]
  have o1 : ∀ q : Nat, q < H.size → H1[q]? = H[q]? := fun q hq => g3 q (by rw [← hR.1]; exact hq)
  refine kk H1 (hR.push z1 o1 ?_) (hS.grow (by omega) o1)
  rw [cel_z (kd_new _ _ _ _), le_new, cI_mZs]
  exact g1
end TROWS
