
def exNames : List String := ["java/lang/RuntimeException", "java/lang/Exception"]
def TW (own : String) (ik ic : Nat) (cls : String) : Prop :=
  Bundle.fit cls = true ∧ Cond.classLink own ik cls ∈ lwg ∧ Cond.initialized cls ∈ lwg ∧ (∀ w ∈ vx_atS own ic cls exNames, w ∈ lwg ∨ w ∈ nws) ∧ (∀ w ∈ Cond.classLink own ik cls :: Cond.initialized cls :: vx_atS own ic cls exNames, vx_ot w = true)
theorem lg_or {ws : List Cond} (ps : List Nat) (hp : ws = ps.filterMap (fun i => lw_tbl[i]?)) (h : ws.all (fun w => goodWord w || isNest w) = true) : ∀ w ∈ ws, w ∈ lwg ∨ w ∈ nws := by
  intro w hw
  have h1 := List.all_eq_true.mp h w hw
  rw [hp] at hw
  obtain ⟨i, -, hi⟩ := List.mem_filterMap.mp hw
  rw [Bool.or_eq_true] at h1
  rcases h1 with h1 | h1
  · exact Or.inl (lwg_in i hi h1)
  · exact Or.inr (nws_in i hi h1)
theorem nw_on {w : Cond} (h : w ∈ nws) : w.onTables = true := by
  have h1 := (List.mem_filter.mp h).2
  cases w with
  | fieldLinkNest a b c d e f => rfl
  | methodLinkNest a b c d => rfl
  | declares a => rfl
  | castable a b => rfl
  | _ => cases h1
section TTHROW
variable {p : Program} {l : Launch} {e : Env} {R : Room} {s : State} {m : MethodId} {args : Array Value} {below : List Frame} {meth : Method} {c0 : Code} {H : Heap} {locs : List Loc} {Q : State → Prop}
variable {cc : ByteArray} {nL : Nat} {rt : Option FieldType} {x : Xc} {K0 K : Ka} {M : Cm} {own nm : String} {pc : Nat} {ls : Array Slot} {rest : List Value} {cls : String}
theorem RCx.of (hR : RC x K M H) {t : State} (h1 : H.size ≤ t.heap.size) (h2 : ∀ q : Nat, q < H.size → t.heap[q]? = H[q]?) : RCx x (K, M) t.heap := by
  refine ⟨t.heap.size, by rw [← hR.1]; exact h1, rfl, Nat.le_trans hR.2.1 (by rw [← hR.1]; exact h1), fun a ha => ⟨(hR.2.2 a ha).1, ?_⟩⟩
  have h3 := (hR.2.2 a ha).2
  exact h3.kept (h2 a h3.lt)

theorem tr_throw {α : Type} {st8 : α → Ka × Cm} {qr8 : α → Array Value → State → Outcome → State → Prop} (CTX : CT p l s m args meth c0 x K0 own nm cc nL rt) (hL : KLe K0 K) (hR : RC x K M H) (hS : va_S (AC K0) s.heap H locs) {ik is ic i : Nat} (hw : TW own ik ic cls) (hstr : (own, is, i) ∈ strR) (hsz : ls.size = nL) (hfr : 6 ≤ R.frames) (hlo : 95 ≤ R.locals) (hcat : (rest.map fun v => v.category).sum ≤ 8) (hbud : kz K - kz K0 + 1 ≤ R.cells ∧ ku K - ku K0 + 6 ≤ R.slots)
    (d0 : decode cc pc = .ok (.new ik, 3)) (d3 : decode cc (pc + 3) = .ok (.dup, 1)) (d4 : decode cc (pc + 4) = .ok (.ldc is, 2)) (d6 : decode cc (pc + 6) = .ok (.invokespecial ic, 3)) (d9 : decode cc (pc + 9) = .ok (.athrow, 1)) {o : α ⊕ (Ka × Cm)} (hf : some (Sum.inr (K, M)) = some o) :
    W p l e R s m args below meth c0 H locs (kz K - kz K0) (ku K - ku K0) (TQ st8 qr8 (zQV K0) cls x K0 below args s o) (F0 m pc ls rest) := by
  obtain ⟨CX, hno, hlt, hmn⟩ := CTX
  obtain ⟨hx, hb, hml, hown, hts, hE, hB, hr, hlk⟩ := CX
  obtain ⟨w1, w2, w3, w4, w5⟩ := hw
  cases hf
  refine vx_throwS (names := exNames) (A := lo0 x) hx hb hlt hown w1 (by decide +kernel) (hts _ w2) (hts _ w3) (hE.2.2.2.1 _ hstr) (fun w hw => (w4 w hw).elim (fun z => hts w z) (fun z => va_Nw.use (nw_on z) (hE.2.1 w z))) w5 hE.2.2.2.2.1 hE.2.2.2.2.2.1 (hS.wide hB) (hsz.trans hml.symm) d0 d3 d4 d6 d9 (fun z hz => (hno z hz).elim) (by show 2 + 3 < R.frames; omega) (by show _ + (13 * (2 + 1) + 43) ≤ R.locals; omega) hbud.1 hbud.2 hlk (fun t h1 h2 h3 => ?_) hS.2.2 (Nat.le_refl _) (Nat.le_refl _)
  exact ⟨(), trivial, ⟨rfl, RCx.of hR h2 h3⟩, Nat.le_trans hS.1 h2, fun q g1 g2 => (h3 q (Nat.lt_of_lt_of_le g1 hS.1)).trans (hS.2.1 q g1 g2)⟩

theorem tr_throwW {α : Type} {st8 : α → Ka × Cm} {qr8 : α → Array Value → State → Outcome → State → Prop} (CTX : CT p l s m args meth c0 x K0 own nm cc nL rt) (hL : KLe K0 K) (hR : RC x K M H) (hS : va_S (AC K0) s.heap H locs) {ik is ic i : Nat} (hw : TW own ik ic cls) (hstr : (own, is, i) ∈ strR) (hsz : ls.size = nL) (hfr : 6 ≤ R.frames) (hlo : 95 ≤ R.locals) (hcat : (rest.map fun v => v.category).sum ≤ 8) (hbud : kz K - kz K0 + 1 ≤ R.cells ∧ ku K - ku K0 + 6 ≤ R.slots)
    (d0 : decode cc pc = .ok (.new ik, 3)) (d3 : decode cc (pc + 3) = .ok (.dup, 1)) (d4 : decode cc (pc + 4) = .ok (.ldc_w is, 3)) (d6 : decode cc (pc + 7) = .ok (.invokespecial ic, 3)) (d9 : decode cc (pc + 10) = .ok (.athrow, 1)) {o : α ⊕ (Ka × Cm)} (hf : some (Sum.inr (K, M)) = some o) :
    W p l e R s m args below meth c0 H locs (kz K - kz K0) (ku K - ku K0) (TQ st8 qr8 (zQV K0) cls x K0 below args s o) (F0 m pc ls rest) := by
  obtain ⟨CX, hno, hlt, hmn⟩ := CTX
  obtain ⟨hx, hb, hml, hown, hts, hE, hB, hr, hlk⟩ := CX
  obtain ⟨w1, w2, w3, w4, w5⟩ := hw
  cases hf
  refine vx_throwSW (names := exNames) (A := lo0 x) hx hb hlt hown w1 (by decide +kernel) (hts _ w2) (hts _ w3) (hE.2.2.2.1 _ hstr) (fun w hw => (w4 w hw).elim (fun z => hts w z) (fun z => va_Nw.use (nw_on z) (hE.2.1 w z))) w5 hE.2.2.2.2.1 hE.2.2.2.2.2.1 (hS.wide hB) (hsz.trans hml.symm) d0 d3 d4 d6 d9 (fun z hz => (hno z hz).elim) (by show 2 + 3 < R.frames; omega) (by show _ + (13 * (2 + 1) + 43) ≤ R.locals; omega) hbud.1 hbud.2 hlk (fun t h1 h2 h3 => ?_) hS.2.2 (Nat.le_refl _) (Nat.le_refl _)
  exact ⟨(), trivial, ⟨rfl, RCx.of hR h2 h3⟩, Nat.le_trans hS.1 h2, fun q g1 g2 => (h3 q (Nat.lt_of_lt_of_le g1 hS.1)).trans (hS.2.1 q g1 g2)⟩
end TTHROW
