
def rx13 : ByteArray := ⟨#[0x2a, 0x2b, 0xb7, 0x00, 0x0d, 0xb1]⟩
theorem rx13_0 : decode rx13 0 = .ok (.aload_n 0, 1) := by decide +kernel
theorem rx13_1 : decode rx13 1 = .ok (.aload_n 1, 1) := by decide +kernel
theorem rx13_2 : decode rx13 2 = .ok (.invokespecial 13, 3) := by decide +kernel
theorem rx13_5 : decode rx13 5 = .ok (.return_, 1) := by decide +kernel
def nx_at (own : String) (ic : Nat) (X : String) (names : List String) : List Cond := (Bundle.ownAtomsX own ic X 13 rx13 names).filter vx_no
def nx_by (ix : Nat) (rx : ByteArray) : Prop := decode rx 0 = .ok (.aload_n 0, 1) ∧ decode rx 1 = .ok (.aload_n 1, 1) ∧ decode rx 2 = .ok (.invokespecial ix, 3) ∧ decode rx 5 = .ok (.return_, 1)
theorem nx_13 : nx_by 13 rx13 := ⟨rx13_0, rx13_1, rx13_2, rx13_5⟩
theorem nx_7 : nx_by 7 Bundle.six := ⟨Bundle.six_0, Bundle.six_1, Bundle.six_2, Bundle.six_5⟩
section NXTHROW
variable {p : Program} {l : Launch} {e : Env} {R : Room} {s : State} {m : MethodId} {args : Array Value} {below : List Frame} {meth : Method} {c : Code} {H : Heap} {locs : List Loc} {cells slots : Nat}
set_option maxHeartbeats 1000000 in
theorem nx_ctor {V : State} {ix : Nat} {rx : ByteArray} (hrx : nx_by ix rx) (X : Stand p l e R s m args below meth c V [] cells slots) (hexec : p.tables.exec = Jvm.exec) (htr : e.platform.stackTraces = false) {own cls : String} {names : List String} {ic : Nat}
    (hown : s.vm.findClass own = some m.cls) (hcls : Bundle.fit cls = true) (hnames : ∀ n ∈ names, Bundle.fit n = true) (h : ∀ a ∈ Bundle.ownAtomsX own ic cls ix rx names, a.before args s = true)
    {a : Addr} {cX : ClassId} {kX : Class} (hfX : s.vm.findClass cls = some cX) (hkX : s.vm.classes[cX]? = some kX) (hcell : V.heap[a]? = some (freshCell cX kX)) (hnew : s.heap.size ≤ a) {msg : Value} (hmsg : msg.isRef = true)
    {g : JFrame} (hg : g.method = m) (hsize : g.locals.size = c.maxLocals) (hlocked : g.locked = none) (hentered : g.entered = []) {rest : List Value} (hstack : g.stack = msg :: .ref a :: .ref a :: rest)
    (d6 : decode c.code g.pc = .ok (.invokespecial ic, 3)) (d9 : decode c.code (g.pc + 3) = .ok (.athrow, 1)) (hout : ∀ x ∈ c.exceptionTable.toList, covers x (g.pc + 3) = false)
    (hRf : names.length + 3 < R.frames) (hRl : 2 * g.monitorRoom + ((Value.ref a :: rest).map fun v => v.category).sum + (13 * (names.length + 1) + 42) ≤ R.locals) (hlocks : meth.locks = false) :
    ∃ U : State, Steps p.tables e below (V.setTop g) U ∧ U.status = .running ∧ Ended U below (.threw a) ∧ s.WarmedH U.vm ∧ s.sameButNew ({ U with vm := s.vm } : State) [] cells slots ∧
      ∃ ce, U.heap[a]? = some ce ∧ s.vm.findClass cls = some ce.cls ∧ ce.vm = .none := by
  have hpf := X.admits.platform
  have hpl : e.platform.magicAccessors = ({} : Platform).magicAccessors := by rw [hpf]
  have tail : ∀ w ∈ [Cond.methodLink own ic (Bundle.initS cls), .instantiable cls 6, .castable cls cls, .selects cls Bundle.tFill0 Bundle.tFill0, .selects cls Bundle.tFill Bundle.tFill,
      .lays cls Bundle.tN "cause" "Ljava/lang/Throwable;", .lays cls Bundle.tN "stackTrace" Bundle.steD, .lays cls Bundle.tN "suppressedExceptions" Bundle.listD, .lays cls Bundle.tN "detailMessage" "Ljava/lang/String;",
      .isRef (.static Bundle.tN "UNASSIGNED_STACK" Bundle.steD), .isRef (.static Bundle.tN "SUPPRESSED_SENTINEL" Bundle.listD),
      .fieldLink Bundle.tN 198 Bundle.tN "backtrace" "Ljava/lang/Object;", .lays Bundle.tN Bundle.tN "backtrace" "Ljava/lang/Object;", .lays cls Bundle.tN "backtrace" "Ljava/lang/Object;"], w.holds args s none s [] = true :=
    fun w hw => h w (List.mem_append_right _ hw)
  obtain ⟨T, Z0, L, -, Y⟩ := ThrowableC.of_atoms (args := args) (by rw [hpf]) (by rw [hpf]) hpl (fun x hx => h x (by simp [Bundle.ownAtomsX, hx]))
  obtain ⟨Z, M, LZ, LM, hnZ⟩ := Init0T.ofS_atoms (args := args) hpl L Y (fun x hx => h x (by simp [Bundle.ownAtomsX, hx]))
  obtain ⟨P1, Ps, hlen, L1, hL, hP1, k1, k2⟩ := Bundle.chainSX (args := args) hpl hnZ hrx.1 hrx.2.1 hrx.2.2.1 hrx.2.2.2 names cls hcls hnames (fun x hx => h x (by simp [Bundle.ownAtomsX, hx]))
  have hfound : s.vm.findClass cls = some P1.m.cls := findClass_of_methodNamed hP1
  cases Option.some.inj (hfX.symm.trans hfound)
  obtain ⟨c1, k9, hc1, hk, hord, -⟩ := Cond.instantiable_spec (tail (.instantiable cls 6) (by simp))
  cases Option.some.inj (hc1.symm.trans hfound)
  cases Option.some.inj (hkX.symm.trans hk)
  have sel : ∀ {t : MethodName} {mt : MethodId}, (t.cls ≠ "java/lang/invoke/MethodHandle" ∧ t.cls ≠ "java/lang/invoke/VarHandle") → s.methodNamed? t = some mt → (Cond.selects cls t t).holds args s none s [] = true → selectMethod e.platform s.vm P1.m.cls mt = .method mt := by
    intro t mt hne hn hw
    obtain ⟨c2, r2, m2, q1, q2, q3, q4, -⟩ := Cond.selects_spec hw
    cases Option.some.inj (q1.symm.trans hfound)
    cases Option.some.inj (q3.symm.trans hn)
    cases Option.some.inj (q2.symm.trans (State.methodFound?_of_named hn hne))
    rw [Launch.admits_selectMethod X.admits]; exact q4
  have sel0 := sel (t := Bundle.tFill0) (by decide) Y.fill0 (tail _ (by simp))
  have selF := sel (t := Bundle.tFill) (by decide) Y.fill (tail _ (by simp))
  obtain ⟨cS0, hcS0, hiss⟩ := Y.statics
  obtain ⟨u0, hu0⟩ := Cond.staticRefV Y.unassigned L.unassignedStatic L.statics hcS0 hiss (tail (.isRef (.static Bundle.tN "UNASSIGNED_STACK" Bundle.steD)) (by simp))
  obtain ⟨sen, hsen⟩ := Cond.staticRefV Y.sentinel L.sentinelStatic L.statics hcS0 hiss (tail (.isRef (.static Bundle.tN "SUPPRESSED_SENTINEL" Bundle.listD)) (by simp))
  obtain ⟨ci, ib, fB, b1, b2, b3, b4, -, nB, tB, ffB⟩ := Cond.ownField (t := .object "java/lang/Object") Y.found L.cls (by decide +kernel) (tail (.fieldLink Bundle.tN 198 Bundle.tN "backtrace" "Ljava/lang/Object;") (by simp)) (tail (.lays Bundle.tN Bundle.tN "backtrace" "Ljava/lang/Object;") (by simp)) e.platform hpl
  obtain ⟨cS, hcS, heS, -, hkeep⟩ := X.same.2.2.2.2.2 T.aS cS0 hcS0
  have hkS : cS.vm ≠ .unknown := by
    rw [heS]; intro hu
    rw [show cS0.vm = .unknown from hu] at hiss
    cases hiss
  have hne : T.aS ≠ a := Nat.ne_of_lt (Nat.lt_of_lt_of_le (Array.getElem?_eq_some_iff.mp hcS0).1 hnew)
  obtain ⟨iM, ffM⟩ := Y.msg
  obtain ⟨tyC, dC, eC, nC⟩ := Cond.laysAt hfound hk Y.cause (tail (.lays cls Bundle.tN "cause" "Ljava/lang/Throwable;") (by simp))
  obtain ⟨tyS, dS, eS, nS⟩ := Cond.laysAt hfound hk Y.stack (tail (.lays cls Bundle.tN "stackTrace" Bundle.steD) (by simp))
  obtain ⟨tyP, dP, eP, nP⟩ := Cond.laysAt hfound hk Y.supp (tail (.lays cls Bundle.tN "suppressedExceptions" Bundle.listD) (by simp))
  obtain ⟨tyM, dM, eM, nM⟩ := Cond.laysAt hfound hk ffM (tail (.lays cls Bundle.tN "detailMessage" "Ljava/lang/String;") (by simp))
  obtain ⟨tyB, dB, eB, nB'⟩ := Cond.laysAt hfound hk ffB (tail (.lays cls Bundle.tN "backtrace" "Ljava/lang/Object;") (by simp))
  have bC := Cond.laysApart eB eC nB' nC (by rw [nB, Y.causeName]; decide)
  have bS := Cond.laysApart eB eS nB' nS (by rw [nB, Y.stackName]; decide)
  have bP := Cond.laysApart eB eP nB' nP (by rw [nB, Y.suppName]; decide)
  have hskip : SkipFacts T e.platform s (fun u => u) u0 ((preparedCellV T.toThrowableT (freshCell P1.m.cls kX) a u0 sen).withEntry V.cur) := by
    refine ⟨{ ci198 := ci, i198 := ib, fBack := fB }, ⟨b1, b2, b3, b4⟩, ?_, fun _ _ => rfl⟩
    have hd := fresh_default (c := P1.m.cls) tyB
    rw [tB] at hd
    simpa [preparedCellV, Cell.setSlot, Cell.withEntry, Array.getElem?_setIfInBounds, bC, bS, bP, bC.symm, bS.symm, bP.symm, defaultValue] using hd
  obtain ⟨tm, _, _, _, vm₁, hnC, -, -, -, -, -, -, -, hW₁, st1⟩ := Steps.initColdS (tb := p.tables) (e := e) (below := below) (s := s) (U := V) X.here hexec X.warmed hpl hown (t := Bundle.initS cls) rfl rfl (Bundle.fit_spec hcls).2
    (tail (.methodLink own ic (Bundle.initS cls)) (by simp)) (h (.instanceMethod (Bundle.initS cls)) (by cases names <;> simp [Bundle.ownAtomsX, Bundle.chainSAtomsX, Bundle.passSAtoms])) (bytes := rx) (maxL := 2)
    (h (.code (Bundle.initS cls) rx 2 none) (by cases names <;> simp [Bundle.ownAtomsX, Bundle.chainSAtomsX, Bundle.passSAtoms])) (f := g) hg (a := a) (msg := msg) (rest := .ref a :: rest) hstack d6
  cases Option.some.inj (hnC.symm.trans hP1)
  obtain ⟨vm₂, X₂, st2⟩ := (X.noted hW₁).ctorMessageOffV hexec (g := { g with stack := .ref a :: rest }) hg hsize T L Z LZ M LM (P1 :: Ps)
    (fun P hP => (List.mem_cons.mp hP).elim (fun z => z ▸ L1) (hL P)) ⟨k1, k2⟩ (u0 := u0) (sen := sen) (self := a) hmsg (cell := freshCell P1.m.cls kX) (cellS := cS)
    hcell (fun _ => by simp) (by simp) rfl rfl sel0 selF hcS hne hkS (by rw [hkeep _ (fun z => nomatch z)]; exact hu0) (by rw [hkeep _ (fun z => nomatch z)]; exact hsen)
    (Takes.of_laid hk hord tyC (by rw [Y.causeType]; rfl)) (Takes.of_laid hk hord tyS (by rw [Y.stackType]; exact fits_refV_array _ u0)) (Takes.of_laid hk hord tyP (by rw [Y.suppType]; exact fits_refV_object _ sen))
    (Takes.of_laid hk hord tyM (by rw [Y.msgType]; exact fits_refV_object _ ⟨msg, hmsg⟩)) Y.objLocals hskip htr [] d6
    (by simp only [List.length_cons, hlen]; omega) (by simp only [List.length_cons, hlen]; exact hRl)
  obtain ⟨hwalk, hrun, hended, hWU, hsame⟩ := X₂.athrowLeaves hexec (g := { g with stack := .ref a :: rest, pc := g.pc + 3 }) hg hlocked hentered hout (a := a) (rest := rest) rfl d9 hlocks
  have hlt : a < ((V.setVm vm₁).setVm vm₂).heap.size := (Array.getElem?_eq_some_iff.mp hcell).1
  refine ⟨_, st1 _ (fun acts => ?_), hrun, hended, hWU, hsame.weaken (fun y hy hl' => ?_) (Nat.le_refl _) (Nat.le_refl _), _, heapAt_setCell_self (s := (V.setVm vm₁).setVm vm₂) (plainBareV T.toThrowableT (freshCell P1.m.cls kX) a u0 sen msg) hlt, hfound, rfl⟩
  · rw [doInvoke_state]
    exact st2 _ hwalk
  · exfalso
    have hb : y.base = a := by
      simp only [List.nil_append, List.mem_cons, List.not_mem_nil, or_false] at hy
      rcases hy with rfl | rfl | rfl | rfl | rfl <;> rfl
    rw [hb] at hl'
    exact Nat.not_lt.mpr hnew hl'
variable {Qc : Array Value → State → Outcome → State → Prop} {XC : String → State → State → Prop} {free : Addr → Prop} {ls : Array Slot} {rest : List Value}
theorem nx_throw {ix : Nat} {rx : ByteArray} (hrx : nx_by ix rx) {cc : ByteArray} {pc k : Nat} (hexec : p.tables.exec = Jvm.exec) (hb : c.code = cc) (hl : l.stackTraces = false) {own cls text : String} {names : List String} {ik is ic mc ms sa : Nat} {A : Nat → Prop}
    (hown : s.vm.findClass own = some m.cls) (hcls : Bundle.fit cls = true) (hnames : ∀ n ∈ names, Bundle.fit n = true)
    (hk : (Cond.classLink own ik cls).before args s = true) (hini : (Cond.initialized cls).before args s = true) (hstr : vk_R own is text sa s) (hat : ∀ w ∈ (Bundle.ownAtomsX own ic cls ix rx names).filter vx_no, w.before args s = true)
    (hgood : ∀ w ∈ Cond.classLink own ik cls :: Cond.initialized cls :: (Bundle.ownAtomsX own ic cls ix rx names).filter vx_no, vx_ot w = true)
    (hU : vx_Zq Bundle.tN "UNASSIGNED_STACK" Bundle.steD A s s.heap) (hN : vx_Zq Bundle.tN "SUPPRESSED_SENTINEL" Bundle.listD A s s.heap) (hS : va_S A s.heap H locs) (hsize : ls.size = c.maxLocals)
    (d0 : decode cc pc = .ok (.new ik, 3)) (d3 : decode cc (pc + 3) = .ok (.dup, 1)) (d4 : (decode cc (pc + 4) = .ok (.ldc is, 2) ∧ k = 6) ∨ (decode cc (pc + 4) = .ok (.ldc_w is, 3) ∧ k = 7)) (d6 : decode cc (pc + k) = .ok (.invokespecial ic, 3)) (d9 : decode cc (pc + k + 3) = .ok (.athrow, 1))
    (hout : ∀ x ∈ c.exceptionTable.toList, covers x (pc + k + 3) = false)
    (hRf : names.length + 3 < R.frames) (hRl : (rest.map fun v => v.category).sum + (13 * (names.length + 1) + 43) ≤ R.locals) (hRc : cells + 1 ≤ R.cells) (hRs : slots + 6 ≤ R.slots) (hlocks : meth.locks = false)
    (hx : ∀ t : State, s.vm.Alike t.vm → t.heap.size = H.size + 1 → (∀ q : Nat, q < H.size → t.heap[q]? = H[q]?) → XC cls s t)
    (hf : ∀ z ∈ locs, free z.base) (hc : cells + 1 ≤ mc) (hs : slots + 6 ≤ ms) :
    W p l e R s m args below meth c H locs cells slots (vx_MQ below Qc XC args s mc ms free) (F0 m pc ls rest) := by
  intro T hT X
  subst hb
  have htr : e.platform.stackTraces = false := (show e.platform.stackTraces = l.stackTraces by rw [X.admits.platform]).trans hl
  have Y := vx_rebase X (R' := { frames := R.frames, locals := R.locals, cells := 1, slots := 6 }) (Nat.le_refl _) (Nat.le_refl _) hRc hRs
  have hW0 : s.WarmedH ((T.setVm s.vm).setFrames (.invoking m args :: below)).vm := State.WarmedH.refl s
  have goes : ∀ {w : Cond}, vx_ot w = true → w.before args s = true → w.before args ((T.setVm s.vm).setFrames (.invoking m args :: below)) = true := fun hg hw => vx_ot_at hW0 rfl hg hw
  have hhp : ((T.setVm s.vm).setFrames (.invoking m args :: below)).heap = H := hT
  have hU' : vx_Zq Bundle.tN "UNASSIGNED_STACK" Bundle.steD A ((T.setVm s.vm).setFrames (.invoking m args :: below)) ((T.setVm s.vm).setFrames (.invoking m args :: below)).heap := by rw [hhp]; exact vx_Zq.moved hW0.alike (hU.kept hS.2.1)
  have hN' : vx_Zq Bundle.tN "SUPPRESSED_SENTINEL" Bundle.listD A ((T.setVm s.vm).setFrames (.invoking m args :: below)) ((T.setVm s.vm).setFrames (.invoking m args :: below)).heap := by rw [hhp]; exact vx_Zq.moved hW0.alike (hN.kept hS.2.1)
  have h := vx_own (L := Bundle.ownAtomsX own ic cls ix rx names) (fun w hw => goes (hgood w (List.mem_cons_of_mem _ (List.mem_cons_of_mem _ hw))) (hat w hw)) (vx_isRefq hU'.1) (vx_isRefq hN'.1) hU'.2.word hN'.2.word
  have hstr' := vk_R.warm hW0 hstr
  obtain ⟨vm₁, cX, kX, hfX, hkX, -, -, X₁, st1⟩ := Y.newCold hexec (own := own) (C := cls) (index := ik) (n := 6) hown (goes (hgood _ List.mem_cons_self) hk) (h _ (by simp [Bundle.ownAtomsX])) (goes (hgood _ (List.mem_cons_of_mem _ List.mem_cons_self)) hini)
    (g := F0 m pc ls rest) rfl d0 (Nat.le_refl _) (Nat.le_refl _)
  generalize hT1 : (T.setVm vm₁).pushCell { cls := cX, slots := kX.instanceTypes.map defaultValue, vm := .none } = T1 at X₁ st1
  have hcat : (Value.ref T.heap.size).category = 1 := rfl
  have hcellA : T1.heap[T.heap.size]? = some (freshCell cX kX) := by rw [← hT1]; exact State.heap_pushCell_size _ _
  obtain ⟨U, hsteps, hrun, hend, hW, hsame, ce, hce, hO, hv⟩ := nx_ctor hrx X₁ hexec htr (own := own) (cls := cls) (names := names) (ic := ic) hown hcls hnames h hfX hkX hcellA (by rw [hhp, hT]; exact Nat.le_refl _) (msg := .ref sa) rfl
    (g := { method := m, pc := pc + k, locals := ls, stack := .ref sa :: .ref T.heap.size :: .ref T.heap.size :: rest, locked := none }) rfl hsize rfl rfl (rest := rest) rfl d6 d9 hout hRf (by simp only [List.map_cons, List.sum_cons, hcat]; omega) hlocks
  have a1 : U.heap.size ≤ T.heap.size + (0 + 1) := hsame.2.2.1
  have a2 := (Array.getElem?_eq_some_iff.mp hce).1
  have hz : U.heap.size = H.size + 1 := by rw [← hT]; omega
  obtain ⟨f1, f2⟩ := vx_frame hsame
  rw [hhp] at f1 f2
  have hWs : s.WarmedH U.vm := State.WarmedH.trans hW0 hW
  have hall : s.sameButNew ({ U with vm := s.vm } : State) locs mc ms := by
    obtain ⟨e1, e2⟩ := hsame
    rw [State.setFrames_setFrames] at e1
    have h2 : (T.setVm s.vm).sameButNew ({ U with vm := s.vm } : State) [] (0 + 1) (0 + 6) := ⟨e1, e2⟩
    have h3 := X.same.trans h2
    rw [List.append_nil] at h3
    exact h3.mono hc hs
  refine ⟨U, ?_, .threw T.heap.size, hrun, hend, Or.inr ⟨T.heap.size, rfl, cls, ce, locs, hx U hWs.alike hz (fun q hq => f2 q hq (fun z hz => nomatch hz)), hce, hv, hO, hWs, hall, hf⟩⟩
  refine st1 _ ?_
  show Steps p.tables e below (T1.setTop { method := m, pc := pc + 3, locals := ls, stack := .ref T.heap.size :: rest, locked := none }) _
  jvm_step X₁.here [X₁.here.top, hexec, d3, Value.category]
  rcases d4 with ⟨d4, rfl⟩ | ⟨d4, rfl⟩
  · exact X₁.ldcString hexec (own := own) (text := text) (index := is) (a := sa) hown hstr'.1 hstr'.2
      (g := { method := m, pc := pc + 4, locals := ls, stack := .ref T.heap.size :: .ref T.heap.size :: rest, locked := none }) rfl d4 _ hsteps
  · exact X₁.ldcStringW hexec (own := own) (text := text) (index := is) (a := sa) hown hstr'.1 hstr'.2
      (g := { method := m, pc := pc + 4, locals := ls, stack := .ref T.heap.size :: .ref T.heap.size :: rest, locked := none }) rfl d4 _ hsteps
end NXTHROW
def NSEn : String := "java/util/NoSuchElementException"
def NWd (own : String) (ik ic : Nat) (cls : String) : Prop :=
  Bundle.fit cls = true ∧ Cond.classLink own ik cls ∈ lwg ∧ Cond.initialized cls ∈ lwg ∧ (∀ w ∈ nx_at own ic cls exNames, w ∈ lwg ∨ w ∈ nws) ∧ (∀ w ∈ Cond.classLink own ik cls :: Cond.initialized cls :: nx_at own ic cls exNames, vx_ot w = true)
section TTHROWN
variable {p : Program} {l : Launch} {e : Env} {R : Room} {s : State} {m : MethodId} {args : Array Value} {below : List Frame} {meth : Method} {c0 : Code} {H : Heap} {locs : List Loc} {Q : State → Prop}
variable {cc : ByteArray} {nL : Nat} {rt : Option FieldType} {x : Xc} {K0 K : Ka} {M : Cm} {own nm : String} {pc : Nat} {ls : Array Slot} {rest : List Value} {cls : String}
theorem tr_throwN {α : Type} {st8 : α → Ka × Cm} {qr8 : α → Array Value → State → Outcome → State → Prop} (CTX : CT p l s m args meth c0 x K0 own nm cc nL rt) (hL : KLe K0 K) (hR : RC x K M H) (hS : va_S (AC K0) s.heap H locs) {ik is ic i k : Nat} (hw : NWd own ik ic cls) (hstr : (own, is, i) ∈ strR) (hsz : ls.size = nL) (hfr : 6 ≤ R.frames) (hlo : 95 ≤ R.locals) (hcat : (rest.map fun v => v.category).sum ≤ 8) (hbud : kz K - kz K0 + 1 ≤ R.cells ∧ ku K - ku K0 + 6 ≤ R.slots)
    (d0 : decode cc pc = .ok (.new ik, 3)) (d3 : decode cc (pc + 3) = .ok (.dup, 1)) (d4 : (decode cc (pc + 4) = .ok (.ldc is, 2) ∧ k = 6) ∨ (decode cc (pc + 4) = .ok (.ldc_w is, 3) ∧ k = 7)) (d6 : decode cc (pc + k) = .ok (.invokespecial ic, 3)) (d9 : decode cc (pc + k + 3) = .ok (.athrow, 1)) {o : α ⊕ (Ka × Cm)} (hf : some (Sum.inr (K, M)) = some o) :
    W p l e R s m args below meth c0 H locs (kz K - kz K0) (ku K - ku K0) (TQ st8 qr8 (zQV K0) cls x K0 below args s o) (F0 m pc ls rest) := by
  obtain ⟨CX, hno, hlt, hmn⟩ := CTX
  obtain ⟨hx, hb, hml, hown, hts, hE, hB, hr, hlk⟩ := CX
  obtain ⟨w1, w2, w3, w4, w5⟩ := hw
  cases hf
  refine nx_throw nx_13 (names := exNames) (A := lo0 x) hx hb hlt hown w1 (by decide +kernel) (hts _ w2) (hts _ w3) (hE.2.2.2.1 _ hstr) (fun w hw => (w4 w hw).elim (fun z => hts w z) (fun z => va_Nw.use (nw_on z) (hE.2.1 w z))) w5 hE.2.2.2.2.1 hE.2.2.2.2.2.1 (hS.wide hB) (hsz.trans hml.symm) d0 d3 d4 d6 d9 (fun z hz => (hno z hz).elim) (by show 2 + 3 < R.frames; omega) (by show _ + (13 * (2 + 1) + 43) ≤ R.locals; omega) hbud.1 hbud.2 hlk (fun t h1 h2 h3 => ?_) hS.2.2 (Nat.le_refl _) (Nat.le_refl _)
  exact ⟨(), trivial, ⟨rfl, RCx.of hR h2 h3⟩, Nat.le_trans hS.1 (by rw [h2]; exact Nat.le_succ _), fun q g1 g2 => (h3 q (Nat.lt_of_lt_of_le g1 hS.1)).trans (hS.2.1 q g1 g2)⟩
theorem tr_throw {α : Type} {st8 : α → Ka × Cm} {qr8 : α → Array Value → State → Outcome → State → Prop} (CTX : CT p l s m args meth c0 x K0 own nm cc nL rt) (hL : KLe K0 K) (hR : RC x K M H) (hS : va_S (AC K0) s.heap H locs) {ik is ic i : Nat} (hw : TW own ik ic cls) (hstr : (own, is, i) ∈ strR) (hsz : ls.size = nL) (hfr : 6 ≤ R.frames) (hlo : 95 ≤ R.locals) (hcat : (rest.map fun v => v.category).sum ≤ 8) (hbud : kz K - kz K0 + 1 ≤ R.cells ∧ ku K - ku K0 + 6 ≤ R.slots)
    (d0 : decode cc pc = .ok (.new ik, 3)) (d3 : decode cc (pc + 3) = .ok (.dup, 1)) (d4 : decode cc (pc + 4) = .ok (.ldc is, 2)) (d6 : decode cc (pc + 6) = .ok (.invokespecial ic, 3)) (d9 : decode cc (pc + 9) = .ok (.athrow, 1)) {o : α ⊕ (Ka × Cm)} (hf : some (Sum.inr (K, M)) = some o) :
    W p l e R s m args below meth c0 H locs (kz K - kz K0) (ku K - ku K0) (TQ st8 qr8 (zQV K0) cls x K0 below args s o) (F0 m pc ls rest) := by
  obtain ⟨CX, hno, hlt, hmn⟩ := CTX
  obtain ⟨hx, hb, hml, hown, hts, hE, hB, hr, hlk⟩ := CX
  obtain ⟨w1, w2, w3, w4, w5⟩ := hw
  cases hf
  refine nx_throw nx_7 (names := exNames) (A := lo0 x) hx hb hlt hown w1 (by decide +kernel) (hts _ w2) (hts _ w3) (hE.2.2.2.1 _ hstr) (fun w hw => (w4 w hw).elim (fun z => hts w z) (fun z => va_Nw.use (nw_on z) (hE.2.1 w z))) w5 hE.2.2.2.2.1 hE.2.2.2.2.2.1 (hS.wide hB) (hsz.trans hml.symm) d0 d3 (k := 6) (Or.inl ⟨d4, rfl⟩) d6 d9 (fun z hz => (hno z hz).elim) (by show 2 + 3 < R.frames; omega) (by show _ + (13 * (2 + 1) + 43) ≤ R.locals; omega) hbud.1 hbud.2 hlk (fun t h1 h2 h3 => ?_) hS.2.2 (Nat.le_refl _) (Nat.le_refl _)
  exact ⟨(), trivial, ⟨rfl, RCx.of hR h2 h3⟩, Nat.le_trans hS.1 (by rw [h2]; exact Nat.le_succ _), fun q g1 g2 => (h3 q (Nat.lt_of_lt_of_le g1 hS.1)).trans (hS.2.1 q g1 g2)⟩
theorem tr_throwW {α : Type} {st8 : α → Ka × Cm} {qr8 : α → Array Value → State → Outcome → State → Prop} (CTX : CT p l s m args meth c0 x K0 own nm cc nL rt) (hL : KLe K0 K) (hR : RC x K M H) (hS : va_S (AC K0) s.heap H locs) {ik is ic i : Nat} (hw : TW own ik ic cls) (hstr : (own, is, i) ∈ strR) (hsz : ls.size = nL) (hfr : 6 ≤ R.frames) (hlo : 95 ≤ R.locals) (hcat : (rest.map fun v => v.category).sum ≤ 8) (hbud : kz K - kz K0 + 1 ≤ R.cells ∧ ku K - ku K0 + 6 ≤ R.slots)
    (d0 : decode cc pc = .ok (.new ik, 3)) (d3 : decode cc (pc + 3) = .ok (.dup, 1)) (d4 : decode cc (pc + 4) = .ok (.ldc_w is, 3)) (d6 : decode cc (pc + 7) = .ok (.invokespecial ic, 3)) (d9 : decode cc (pc + 10) = .ok (.athrow, 1)) {o : α ⊕ (Ka × Cm)} (hf : some (Sum.inr (K, M)) = some o) :
    W p l e R s m args below meth c0 H locs (kz K - kz K0) (ku K - ku K0) (TQ st8 qr8 (zQV K0) cls x K0 below args s o) (F0 m pc ls rest) := by
  obtain ⟨CX, hno, hlt, hmn⟩ := CTX
  obtain ⟨hx, hb, hml, hown, hts, hE, hB, hr, hlk⟩ := CX
  obtain ⟨w1, w2, w3, w4, w5⟩ := hw
  cases hf
  refine nx_throw nx_7 (names := exNames) (A := lo0 x) hx hb hlt hown w1 (by decide +kernel) (hts _ w2) (hts _ w3) (hE.2.2.2.1 _ hstr) (fun w hw => (w4 w hw).elim (fun z => hts w z) (fun z => va_Nw.use (nw_on z) (hE.2.1 w z))) w5 hE.2.2.2.2.1 hE.2.2.2.2.2.1 (hS.wide hB) (hsz.trans hml.symm) d0 d3 (k := 7) (Or.inr ⟨d4, rfl⟩) d6 d9 (fun z hz => (hno z hz).elim) (by show 2 + 3 < R.frames; omega) (by show _ + (13 * (2 + 1) + 43) ≤ R.locals; omega) hbud.1 hbud.2 hlk (fun t h1 h2 h3 => ?_) hS.2.2 (Nat.le_refl _) (Nat.le_refl _)
  exact ⟨(), trivial, ⟨rfl, RCx.of hR h2 h3⟩, Nat.le_trans hS.1 (by rw [h2]; exact Nat.le_succ _), fun q g1 g2 => (h3 q (Nat.lt_of_lt_of_le g1 hS.1)).trans (hS.2.1 q g1 g2)⟩
end TTHROWN
