
/-! String constants: text i is the cell x.2.2.1 i, its bytes the cell x.2.2.2.1 i -/
def sB (i j : Nat) : Int32 := (strB.getD i []).getD j 0
def sN (i : Nat) : Nat := strL.getD i 0
def isCh (v : Int32) : Bool := (v.toUInt32 % 65536).toInt32 == v
def isBy (v : Int32) : Bool := v.toInt8.toInt32 == v
theorem narC {v : Int32} (h : isCh v = true) : narrow .char (.int v) = .int v := by
  have h1 : (v.toUInt32 % 65536).toInt32 = v := by simpa [isCh] using h
  have h2 : narrow .char (.int (v.toUInt32 % 65536).toInt32) = .int (v.toUInt32 % 65536).toInt32 := pk_nc v
  rw [h1] at h2
  exact h2
theorem narB {v : Int32} (h : isBy v = true) : narrow .byte (.int v) = .int v := by
  have h1 : v.toInt8.toInt32 = v := by simpa [isBy] using h
  have h2 : narrow .byte (.int v.toInt8.toInt32) = .int v.toInt8.toInt32 := pk_nb v
  rw [h1] at h2
  exact h2
theorem va_S.wide {A B : Nat → Prop} {H0 H : Heap} {locs : List Loc} (h : va_S A H0 H locs) (hAB : ∀ q, A q → B q) : va_S B H0 H locs := ⟨h.1, fun q h1 h2 => h.2.1 q h1 (fun z => h2 (hAB q z)), fun z hz => hAB _ (h.2.2 z hz)⟩
section CSTR
variable {p : Program} {l : Launch} {e : Env} {R : Room} {s : State} {m : MethodId} {args : Array Value} {below : List Frame} {meth : Method} {c0 : Code} {H : Heap} {locs : List Loc} {cells slots : Nat} {Q : State → Prop}
variable {cc : ByteArray} {nL : Nat} {rt : Option FieldType} {x : Xc} {K0 K : Ka} {M : Cm} {own : String} {pc : Nat} {ls : Array Slot} {rest : List Value}
theorem ss_ldc (CX : CC p s m args meth c0 x K0 own cc nL rt) {idx i : Nat} (hq : (own, idx, i) ∈ strR) (hdg : decode cc pc = .ok (.ldc idx, 2))
    (kk : W p l e R s m args below meth c0 H locs cells slots Q (F0 m (pc + 2) ls (.ref (x.2.2.1 i) :: rest))) : W p l e R s m args below meth c0 H locs cells slots Q (F0 m pc ls rest) := by
  obtain ⟨hx, hb, hml, hown, hts, hE, hB, hr, hlk⟩ := CX
  exact va_ldcS hx hb hown (hE.2.2.2.1 _ hq) hdg kk
theorem ss_value (CX : CC p s m args meth c0 x K0 own cc nL rt) (hS : va_S (AC K0) s.heap H locs) {idx i : Nat} (hi : decide (i < strN) = true) (hw : Cond.fieldLink own idx "java/lang/String" "value" "[B" ∈ lwg) (hdg : decode cc pc = .ok (.getfield idx, 3))
    (kk : W p l e R s m args below meth c0 H locs cells slots Q (F0 m (pc + 3) ls (.ref (x.2.2.2.1 i) :: rest))) : W p l e R s m args below meth c0 H locs cells slots Q (F0 m pc ls (.ref (x.2.2.1 i) :: rest)) := by
  obtain ⟨hx, hb, hml, hown, hts, hE, hB, hr, hlk⟩ := CX
  exact vk_getf hx hb (hE.2.2.1.1 i (of_decide_eq_true hi)).2.2.1 (hS.wide hB) hown (hts _ hw) (fun _ h => h) hdg kk
theorem ss_coder (CX : CC p s m args meth c0 x K0 own cc nL rt) (hS : va_S (AC K0) s.heap H locs) {idx i : Nat} (hi : decide (i < strN) = true) (hw : Cond.fieldLink own idx "java/lang/String" "coder" "B" ∈ lwg) (hdg : decode cc pc = .ok (.getfield idx, 3))
    (kk : W p l e R s m args below meth c0 H locs cells slots Q (F0 m (pc + 3) ls (.int 0 :: rest))) : W p l e R s m args below meth c0 H locs cells slots Q (F0 m pc ls (.ref (x.2.2.1 i) :: rest)) := by
  obtain ⟨hx, hb, hml, hown, hts, hE, hB, hr, hlk⟩ := CX
  exact vk_getf hx hb (hE.2.2.1.1 i (of_decide_eq_true hi)).2.1 (hS.wide hB) hown (hts _ hw) (fun _ h => h) hdg kk
theorem ss_compact (CX : CC p s m args meth c0 x K0 own cc nL rt) (hS : va_S (AC K0) s.heap H locs) {idx : Nat} (hw : Cond.fieldLink own idx "java/lang/String" "COMPACT_STRINGS" "Z" ∈ lwg) (hdg : decode cc pc = .ok (.getstatic idx, 3))
    (kk : W p l e R s m args below meth c0 H locs cells slots Q (F0 m (pc + 3) ls (.int 1 :: rest))) : W p l e R s m args below meth c0 H locs cells slots Q (F0 m pc ls rest) := by
  obtain ⟨hx, hb, hml, hown, hts, hE, hB, hr, hlk⟩ := CX
  exact va_gets hx hb hE.2.2.2.2.2.2.1 (hS.wide hB) hown (hts _ hw) (fun _ h => h) hdg kk
theorem ss_fmt (CX : CC p s m args meth c0 x K0 own cc nL rt) (hS : va_S (AC K0) s.heap H locs) {idx : Nat} (hw : Cond.fieldLink own idx "jdk/internal/util/Preconditions" "SIOOBE_FORMATTER" "Ljava/util/function/BiFunction;" ∈ lwg) (hdg : decode cc pc = .ok (.getstatic idx, 3))
    (kk : W p l e R s m args below meth c0 H locs cells slots Q (F0 m (pc + 3) ls (va_rf x.2.2.2.2 :: rest))) : W p l e R s m args below meth c0 H locs cells slots Q (F0 m pc ls rest) := by
  obtain ⟨hx, hb, hml, hown, hts, hE, hB, hr, hlk⟩ := CX
  exact va_gets hx hb hE.2.2.2.2.2.2.2.1 (hS.wide hB) hown (hts _ hw) (fun _ h => h) hdg kk
theorem ss_bald (CX : CC p s m args meth c0 x K0 own cc nL rt) (hS : va_S (AC K0) s.heap H locs) {i : Nat} (hi : decide (i < strN) = true) {j : Int32} (hin : vp_in j (sN i)) (hdg : decode cc pc = .ok (.baload, 1))
    (kk : W p l e R s m args below meth c0 H locs cells slots Q (F0 m (pc + 1) ls (.int (sB i j.toNatClampNeg) :: rest))) : W p l e R s m args below meth c0 H locs cells slots Q (F0 m pc ls (.int j :: .ref (x.2.2.2.1 i) :: rest)) := by
  obtain ⟨hx, hb, hml, hown, hts, hE, hB, hr, hlk⟩ := CX
  exact va_tb hx hb (hE.2.2.1.1 i (of_decide_eq_true hi)).2.2.2 (hS.wide hB) hin rfl hdg kk
theorem ss_blen (CX : CC p s m args meth c0 x K0 own cc nL rt) (hS : va_S (AC K0) s.heap H locs) {i : Nat} (hi : decide (i < strN) = true) (hdg : decode cc pc = .ok (.arraylength, 1))
    (kk : W p l e R s m args below meth c0 H locs cells slots Q (F0 m (pc + 1) ls (.int (nI (sN i)) :: rest))) : W p l e R s m args below meth c0 H locs cells slots Q (F0 m pc ls (.ref (x.2.2.2.1 i) :: rest)) := by
  obtain ⟨hx, hb, hml, hown, hts, hE, hB, hr, hlk⟩ := CX
  exact va_tlen hx hb (hE.2.2.1.1 i (of_decide_eq_true hi)).2.2.2 (hS.wide hB) rfl hdg kk
theorem cr_cret (CX : CC p s m args meth c0 x K own cc nL (some .char)) (hR : RC x K M H) (hS : va_S (AC K) s.heap H locs) {o : Int32 × Cm} {v : Int32} (hv : isCh v = true) (hf : some (v, M) = some o) (hdg : decode cc pc = .ok (.ireturn, 1)) :
    W p l e R s m args below meth c0 H locs 0 0 (MQ below (CQI x K o) args s 0 0 (AC K)) (F0 m pc ls [.int v]) := by
  obtain ⟨hx, hb, hml, hown, hts, hE, hB, hr, hlk⟩ := CX
  cases hf
  exact W.zret hx hb hr (narC hv) (fun t ht _ => ⟨⟨v, (), rfl, rfl, by show RC _ _ _ t.heap; rw [ht]; exact hR⟩, hS.F ht⟩) hS.2.2 hdg hlk
theorem cr_bret (CX : CC p s m args meth c0 x K own cc nL (some .byte)) (hR : RC x K M H) (hS : va_S (AC K) s.heap H locs) {o : Int32 × Cm} {v : Int32} (hv : isBy v = true) (hf : some (v, M) = some o) (hdg : decode cc pc = .ok (.ireturn, 1)) :
    W p l e R s m args below meth c0 H locs 0 0 (MQ below (CQI x K o) args s 0 0 (AC K)) (F0 m pc ls [.int v]) := by
  obtain ⟨hx, hb, hml, hown, hts, hE, hB, hr, hlk⟩ := CX
  cases hf
  exact W.zret hx hb hr (narB hv) (fun t ht _ => ⟨⟨v, (), rfl, rfl, by show RC _ _ _ t.heap; rw [ht]; exact hR⟩, hS.F ht⟩) hS.2.2 hdg hlk
theorem cr_callIvS (CX : CC p s m args meth c0 x K0 own cc nL rt) (hR : RC x K M H) (hL : KLe K0 K) (hS : va_S (AC K0) s.heap H locs) {idx : Nat} {y : MethodName} {bytes : ByteArray} {nL' n fr lo : Nat} {rt' : Option FieldType} {As st : List Value} {o : Int32 × Cm} {i : Nat} (hi : decide (i < strN) = true) (hM : CtI l x y bytes nL' rt' fr lo (.ref (x.2.2.1 i) :: As) K M o) (hw : CWv own idx "java/lang/String" y bytes nL' rt' n) (hrm : fr + 1 ≤ R.frames ∧ 8 + (nL' + 11) + lo ≤ R.locals) (hn : As.length = n) (hst : st = As.reverse ++ .ref (x.2.2.1 i) :: rest) (hcat : (rest.map fun v => v.category).sum ≤ 8) (hsz : ls.size = nL) (hdg : decode cc pc = .ok (.invokevirtual idx, 3)) (hcs : cells ≤ R.cells ∧ slots ≤ R.slots)
    (kk : ∀ (H1 : Heap) (locs1 : List Loc), RC x K o.2 H1 → va_S (AC K0) s.heap H1 locs1 → W p l e R s m args below meth c0 H1 locs1 cells slots Q (F0 m (pc + 3) ls (.int o.1 :: rest))) : W p l e R s m args below meth c0 H locs cells slots Q (F0 m pc ls st) := by
  have hev := fun (U : State) (hU : U.heap = H) (hW : s.WarmedH U.vm) => CX.ev hS hU hW
  obtain ⟨hx, hb, hml, hown, hts, hE, hB, hr, hlk⟩ := CX
  subst hst
  refine va_calli (va_runV (As := As) (rest := rest) ⟨hx, hb, hml, hown, hts⟩ hM (hw.cw (rm := rmM fr lo) hts rfl rfl hrm) ⟨PCm_blind, vk_recv hE.2.2.1 (of_decide_eq_true hi) (hS.wide hB), fun U hU hW => ⟨rfl, by rw [hU]; exact hR, hev U hU hW⟩⟩ rfl hn hsz rfl (lv_room hcat) hdg hcs) hS (fun q _ h => hL.AC q h) (fun q h => hL.AC q h) (fun r u t H1 locs1 ht hvm hw hB1 hz hk1 hS1 => ?_)
  rw [ht] at hB1
  subst hw
  exact kk H1 locs1 hB1 hS1
end CSTR
