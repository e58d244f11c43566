/-! int[].clone -/
section CLN
variable {p : Program} {l : Launch} {e : Env} {R : Room} {s : State} {m : MethodId} {args : Array Value} {below : List Frame} {meth : Method} {c : Code} {H : Heap} {locs : List Loc} {cells slots : Nat} {Q : State → Prop}
variable {pc : Nat} {ls : Array Slot} {rest : List Value} {a : Nat}
theorem raw_clone {cc : ByteArray} (hexec : p.tables.exec = Jvm.exec) (hb : c.code = cc) (hml : c.maxLocals = ls.size) {own ad : String} {index : Nat} (hown : s.vm.findClass own = some m.cls)
    (hlink : (Cond.methodLink own index ⟨ad, "clone", "()Ljava/lang/Object;"⟩).before args s = true) (hsame : (Cond.sameMethod ad "java/lang/Object" "clone" "()Ljava/lang/Object;").before args s = true)
    (hnat : (Cond.native ⟨"java/lang/Object", "clone", "()Ljava/lang/Object;"⟩).before args s = true) (hinst : (Cond.instanceMethod ⟨"java/lang/Object", "clone", "()Ljava/lang/Object;"⟩).before args s = true)
    (hsel : (Cond.selects ad ⟨ad, "clone", "()Ljava/lang/Object;"⟩ ⟨"java/lang/Object", "clone", "()Ljava/lang/Object;"⟩).before args s = true) (hcl : (Cond.castable ad "java/lang/Cloneable").before args s = true)
    {cA : ClassId} {n : Nat} {f : Nat → Int32} (ha : H[a]? = some (vp_cell cA (n, .inl f))) (ht : ArrOfT s cA .int) (hnm : s.vm.findClass ad = some cA)
    (hframes : 1 ≤ R.frames) (hlocals : (rest.map fun v => v.category).sum + 14 ≤ R.locals) (hcells : cells + 1 ≤ R.cells) (hslots : slots + n ≤ R.slots) (hdg : decode cc pc = .ok (.invokevirtual index, 3))
    (kk : ∀ (H1 : Heap), H1[H.size]? = some (vp_cell cA (n, .inl f)) → H1.size = H.size + 1 → (∀ q : Nat, q < H.size → H1[q]? = H[q]?) → W p l e R s m args below meth c H1 locs (cells + 1) (slots + n) Q (F0 m (pc + 3) ls (.ref H.size :: rest))) : W p l e R s m args below meth c H locs cells slots Q (F0 m pc ls (.ref a :: rest)) := by
  have hsz : (vp_cell cA (n, .inl f)).slots.size = n := arrV_size _ _ _
  have hvm0 : (vp_cell cA (n, .inl f)).vm = .none := rfl
  have hcl0 : (vp_cell cA (n, .inl f)).cls = cA := rfl
  have hcellE : ({ cls := (vp_cell cA (n, .inl f)).cls, slots := (vp_cell cA (n, .inl f)).slots } : Cell) = vp_cell cA (n, .inl f) := rfl
  obtain ⟨c0, t0', f1, f2, f3⟩ := Cond.castable_spec hcl
  cases hnm.symm.trans f1
  intro T hT X
  have hcellT : T.heap[a]? = some (vp_cell cA (n, .inl f)) := by rw [hT]; exact ha
  obtain ⟨-, kA, hkA, comp, hkind⟩ := State.isArrayOf_alike X.warmed.alike (ht 0 (fun _ => .null))
  obtain ⟨-, kS, hkS, compS, hkindS⟩ := ht 0 (fun _ => .null)
  obtain ⟨vm', X', st⟩ := X.cloneArray hexec hown hlink hsame hnat hinst hsel (a := a) (cell := vp_cell cA (n, .inl f)) hcellT (fun k h => by rw [hvm0] at h; cases h) (by rw [hvm0]; exact fun h => by cases h) (by rw [hcl0]; exact hnm) f2 (by rw [hcl0]; exact f3)
    (fun i v hv => by
      rw [hcl0]
      have hk' : T.vm.classes[cA]? = some kA := hkA
      have hi : fits .int v = true := va_fit (fun _ _ => rfl) i v hv
      simpa [State.fitsSlot, State.slotType?, hk', hkind] using hi)
    (g := F0 m pc ls (.ref a :: rest)) rfl (by rw [hml]) rfl (by rw [hb]; exact hdg) hframes (by show 2 * 0 + _ + 14 ≤ _; omega) hcells (by rw [hsz]; exact hslots) (hloader := by rw [hcl0]; exact Vm.clonesLoader_of_array hkS hkindS)
  rw [hcellE, hsz] at X'
  generalize hH1 : H.push (vp_cell cA (n, .inl f)) = H1
  have z1 : H1.size = H.size + 1 := by rw [← hH1, Array.size_push]
  have e1 : H1[H.size]? = some (vp_cell cA (n, .inl f)) := by rw [← hH1, Array.getElem?_push_size]
  have o1 : ∀ q : Nat, q < H.size → H1[q]? = H[q]? := fun q hq => by rw [← hH1, Array.getElem?_push, if_neg (Nat.ne_of_lt hq)]
  obtain ⟨t, b1, b2⟩ := kk H1 e1 z1 o1 ((T.setVm vm').pushCell (vp_cell cA (n, .inl f))) (by rw [← hH1, ← hT]; rfl) X'
  refine ⟨t, st t ?_, b2⟩
  rw [hcellE, hT]
  exact b1
theorem raw_casta {cc : ByteArray} (hexec : p.tables.exec = Jvm.exec) (hb : c.code = cc) {own nm : String} {index : Nat} (hown : s.vm.findClass own = some m.cls) (hlink : (Cond.classLink own index nm).before args s = true) {cA : ClassId} {n : Nat} {f : Nat → Int32} (ha : H[a]? = some (vp_cell cA (n, .inl f))) (hnm : s.vm.findClass nm = some cA) (hdg : decode cc pc = .ok (.checkcast index, 3))
    (k : W p l e R s m args below meth c H locs cells slots Q (F0 m (pc + 3) ls (.ref a :: rest))) : W p l e R s m args below meth c H locs cells slots Q (F0 m pc ls (.ref a :: rest)) := by
  have hvm0 : (vp_cell cA (n, .inl f)).vm = .none := rfl
  have hcl0 : (vp_cell cA (n, .inl f)).cls = cA := rfl
  intro T hT X
  obtain ⟨vm', X', st⟩ := X.checkcastYes hexec hown hlink (by rw [hT]; exact ha) (by rw [hvm0]; rfl) hnm (by rw [hcl0]; exact va_asg _ _) (g := F0 m pc ls (.ref a :: rest)) rfl rfl (by rw [hb]; exact hdg)
  obtain ⟨t, a1, b1⟩ := k (T.setVm vm') hT X'
  exact ⟨t, st t a1, b1⟩
end CLN
theorem wk_316 : Cond.methodLink RJ7 316 ⟨"[I", "clone", "()Ljava/lang/Object;"⟩ ∈ lwg := lwg_in 902 (by decide +kernel) (by decide +kernel)
theorem wk_same : Cond.sameMethod "[I" "java/lang/Object" "clone" "()Ljava/lang/Object;" ∈ lwg := lwg_in 903 (by decide +kernel) (by decide +kernel)
theorem wk_nat : Cond.native ⟨"java/lang/Object", "clone", "()Ljava/lang/Object;"⟩ ∈ lwg := lwg_in 904 (by decide +kernel) (by decide +kernel)
theorem wk_ins : Cond.instanceMethod ⟨"java/lang/Object", "clone", "()Ljava/lang/Object;"⟩ ∈ lwg := lwg_in 905 (by decide +kernel) (by decide +kernel)
theorem wk_sel : Cond.selects "[I" ⟨"[I", "clone", "()Ljava/lang/Object;"⟩ ⟨"java/lang/Object", "clone", "()Ljava/lang/Object;"⟩ ∈ lwg := lwg_in 906 (by decide +kernel) (by decide +kernel)
theorem wk_cst : Cond.castable "[I" "java/lang/Cloneable" ∈ nws := nws_in 907 (by decide +kernel) (by decide +kernel)
theorem wk_317 : Cond.classLink RJ7 317 "[I" ∈ lwg := lwg_in 908 (by decide +kernel) (by decide +kernel)
section TCLN
variable {p : Program} {l : Launch} {e : Env} {R : Room} {s : State} {m : MethodId} {args : Array Value} {below : List Frame} {meth : Method} {c0 : Code} {H : Heap} {locs : List Loc} {Q : State → Prop}
variable {cc : ByteArray} {nL : Nat} {rt : Option FieldType} {x : Xc} {K0 K : Ka} {M : Cm} {pc : Nat} {ls : Array Slot} {rest : List Value}
/-- the copy of an int[] of the same length, its cast -/
def mCl (M : Cm) (a b : Nat) : Cm := (va_up M.1 b (cI M a), va_up M.2.1 b (fun _ => 0), va_up M.2.2 b (fun _ => none))
theorem cI_mCl (M : Cm) {a b q : Nat} (h : q ≠ b) : cI (mCl M a b) q = cI M q := by funext i; simp [cI, mCl, va_up, h]
theorem cL_mCl (M : Cm) {a b q : Nat} (h : q ≠ b) : cL (mCl M a b) q = cL M q := by funext i; simp [cL, mCl, va_up, h]
theorem cR_mCl (M : Cm) {a b q : Nat} (h : q ≠ b) : cR (mCl M a b) q = cR M q := by funext i; simp [cR, mCl, va_up, h]
theorem cI_mCls (M : Cm) (a b : Nat) : cI (mCl M a b) b = cI M a := by funext i; simp [cI, mCl, va_up]
theorem tr_clonei (CX : CC p s m args meth c0 x K0 RJ7 cc nL rt) (hL : KLe K0 K) (hR : RC x K M H) (hS : va_S (AC K0) s.heap H locs) {a : Nat} (hk : kd K a = 22) (hsz : ls.size = nL) (hfr : 1 ≤ R.frames) (hlo : 22 ≤ R.locals) (hcat : (rest.map fun v => v.category).sum ≤ 8) (hbud : kz (kNew K 22 (le K a) (le K a)) - kz K0 ≤ R.cells ∧ ku (kNew K 22 (le K a) (le K a)) - ku K0 ≤ R.slots) (hdg : decode cc pc = .ok (.invokevirtual 316, 3)) (hdg2 : decode cc (pc + 3) = .ok (.checkcast 317, 3))
    (kk : ∀ (H1 : Heap), RC x (kNew K 22 (le K a) (le K a)) (mCl M a (kz K)) H1 → va_S (AC K0) s.heap H1 locs → W p l e R s m args below meth c0 H1 locs (kz (kNew K 22 (le K a) (le K a)) - kz K0) (ku (kNew K 22 (le K a) (le K a)) - ku K0) Q (F0 m (pc + 3 + 3) ls (.ref (kz K) :: rest))) : W p l e R s m args below meth c0 H locs (kz K - kz K0) (ku K - ku K0) Q (F0 m pc ls (.ref a :: rest)) := by
  obtain ⟨hx, hb, hml, hown, hts, hE, hB, hr, hlk⟩ := CX
  have l1 := hL.1
  have l2 := hL.2.1
  have ha := (hR.2.2 a (by omega)).2
  rw [cel_i hk] at ha
  have hs : H.size = kz K := hR.1
  have e1 : kz K - kz K0 + 1 = kz (kNew K 22 (le K a) (le K a)) - kz K0 := by show kz K - kz K0 + 1 = kz K + 1 - kz K0; omega
  have e2 : ku K - ku K0 + le K a = ku (kNew K 22 (le K a) (le K a)) - ku K0 := by show ku K - ku K0 + le K a = ku K + le K a - ku K0; omega
  refine raw_clone hx hb (hml.trans hsz.symm) hown (hts _ wk_316) (hts _ wk_same) (hts _ wk_nat) (hts _ wk_ins) (hts _ wk_sel) (va_Nw.use rfl (hE.2.1 _ wk_cst)) (cA := x.1.2 1) (n := le K a) (f := cI M a) ha (hE.1.2 1 _ rfl).1 (hE.1.2 1 _ rfl).2 hfr (by omega) (by rw [e1]; exact hbud.1) (by rw [e2]; exact hbud.2) hdg fun H1 g1 g2 g3 => ?_
  rw [e1, e2, hs]
  rw [hs] at g1 g2
  refine raw_casta hx hb hown (hts _ wk_317) (cA := x.1.2 1) (n := le K a) (f := cI M a) g1 (hE.1.2 1 _ rfl).2 hdg2 ?_
  have o1 : ∀ q : Nat, q < H.size → H1[q]? = H[q]? := g3
  refine kk H1 ?_ (hS.grow (by omega) o1)
  refine ⟨by rw [g2]; rfl, Nat.le_trans hR.2.1 (Nat.le_succ _), fun q hq => ?_⟩
  by_cases y : q = kz K
  · subst y
    refine ⟨hR.2.1, ?_⟩
    rw [cel_i (kd_new _ _ _ _), le_new, cI_mCls]
    exact g1
  · rw [kd_newo _ _ _ _ y] at hq
    have h2 := (hR.2.2 q hq).2
    refine ⟨(hR.2.2 q hq).1, ?_⟩
    have e : cel x.1 (kNew K 22 (le K a) (le K a)) (mCl M a (kz K)) q = cel x.1 K M q := by
      have e : cel x.1 (kNew K 22 (le K a) (le K a)) (mCl M a (kz K)) q = cel x.1 (kNew K 22 (le K a) (le K a)) M q := cel_same (cI_mCl M y) (cL_mCl M y) (cR_mCl M y)
      rw [e]
      simp only [cel, kd_newo K 22 (le K a) (le K a) y, le_newo K 22 (le K a) (le K a) y]
    rw [e]
    exact h2.kept (o1 q h2.lt)
end TCLN
