
def CWi (own : String) (idx : Nat) (y : MethodName) (bytes : ByteArray) (nL n : Nat) : Prop :=
  (Cond.methodLink own idx y ∈ lwg ∨ ∃ host, Cond.methodLinkNest own idx y host ∈ nws) ∧ Cond.instanceMethod y ∈ lwg ∧ Cond.initialized y.cls ∈ lwg ∧ Cond.code y bytes nL none ∈ lwg ∧ y.name = "<init>" ∧ (y.cls ≠ "java/lang/invoke/MethodHandle" ∧ y.cls ≠ "java/lang/invoke/VarHandle" ∧ (parseMethodDescriptor y.desc).map (fun d => d.parameters.length) = some n)
theorem cnt {K0 K K' : Ka} (h1 : KLe K0 K) (h2 : KLe K K') : kz K - kz K0 + (kz K' - kz K) = kz K' - kz K0 ∧ ku K - ku K0 + (ku K' - ku K) = ku K' - ku K0 := by
  obtain ⟨a1, a2, -⟩ := h1
  obtain ⟨b1, b2, -⟩ := h2
  omega
section TCALL
variable {p : Program} {l : Launch} {e : Env} {R : Room} {s : State} {m : MethodId} {args : Array Value} {below : List Frame} {meth : Method} {c0 : Code} {H : Heap} {locs : List Loc} {Q : State → Prop}
variable {cc : ByteArray} {nL : Nat} {rt : Option FieldType} {x : Xc} {K0 K : Ka} {M : Cm} {own nm C : String} {T : u_T} {ty : Nat → FieldType} {c : Nat} {pc : Nat} {ls : Array Slot} {rest : List Value} {exn : String}

theorem ta_callVv (hC : KC c C T ty) (CX : CC p s m args meth c0 x K0 own cc nL rt) (hL : KLe K0 K) (hR : RC x K M H) (hS : va_S (AC K0) s.heap H locs) {idx : Nat} {y : MethodName} {bytes : ByteArray} {nL' n fr lo : Nat} {rt' : Option FieldType} {As st : List Value} {qz : Array Value → State → Outcome → State → Prop} {r : Ka × Cm} {a : Nat} (hk : (kd K a == c + 1) = true) (hM : Tc sV (aQV x K) qz exn l x y bytes nL' rt' fr lo (.ref a :: As) K M (.inl r)) (hw : CWv own idx C y bytes nL' rt' n) (hrm : fr + 1 ≤ R.frames ∧ 8 + (nL' + 11) + lo ≤ R.locals) (hn : As.length = n) (hcat : (rest.map fun v => v.category).sum ≤ 8) (hsz : ls.size = nL) (hq : KLe K r.1) (hbud : kz r.1 - kz K0 ≤ R.cells ∧ ku r.1 - ku K0 ≤ R.slots) (hst : st = As.reverse ++ .ref a :: rest) (hdg : decode cc pc = .ok (.invokevirtual idx, 3))
    (kk : ∀ (H1 : Heap) (locs1 : List Loc), RC x r.1 r.2 H1 → va_S (AC K0) s.heap H1 locs1 → W p l e R s m args below meth c0 H1 locs1 (kz r.1 - kz K0) (ku r.1 - ku K0) Q (F0 m (pc + 3) ls (rest))) : W p l e R s m args below meth c0 H locs (kz K - kz K0) (ku K - ku K0) Q (F0 m pc ls st) := by
  have hk : kd K a = c + 1 := by simpa using hk
  have hev := fun (U : State) (hU : U.heap = H) (hW : s.WarmedH U.vm) => CX.ev hS hU hW
  obtain ⟨hx, hb, hml, hown, hts, hE, hB, hr, hlk⟩ := CX
  obtain ⟨e1, e2⟩ := cnt hL hq
  subst hst
  refine va_callv (va_runV (As := As) (rest := rest) ⟨hx, hb, hml, hown, hts⟩ hM (hw.cw (rm := rmA fr lo _ _) hts rfl rfl hrm) ⟨PCm_blind, hR.recv hC hE.1 hk, fun U hU hW => ⟨rfl, by rw [hU]; exact hR, hev U hU hW⟩⟩ rfl hn hsz rfl (lv_room hcat) hdg ⟨by show _ + (kz r.1 - kz K) ≤ _; rw [e1]; exact hbud.1, by show _ + (ku r.1 - ku K) ≤ _; rw [e2]; exact hbud.2⟩) hS (fun q _ h => hL.AC q h) (fun q h => hL.AC q h) (fun u t H1 locs1 ht hvm hw hB1 hz hk1 hS1 => ?_)
  rw [ht] at hB1
  refine W.cs e1 e2 (kk H1 locs1 hB1 hS1)

theorem ta_callVs (CX : CC p s m args meth c0 x K0 own cc nL rt) (hL : KLe K0 K) (hR : RC x K M H) (hS : va_S (AC K0) s.heap H locs) {idx : Nat} {y : MethodName} {bytes : ByteArray} {nL' n fr lo : Nat} {rt' : Option FieldType} {As st : List Value} {qz : Array Value → State → Outcome → State → Prop} {r : Ka × Cm} (hM : Tc sV (aQV x K) qz exn l x y bytes nL' rt' fr lo As K M (.inl r)) (hw : CWs own idx y bytes nL' rt' n) (hrm : fr + 1 ≤ R.frames ∧ 8 + (nL' + 11) + lo ≤ R.locals) (hn : As.length = n) (hcat : (rest.map fun v => v.category).sum ≤ 8) (hsz : ls.size = nL) (hq : KLe K r.1) (hbud : kz r.1 - kz K0 ≤ R.cells ∧ ku r.1 - ku K0 ≤ R.slots) (hst : st = As.reverse ++ rest) (hdg : decode cc pc = .ok (.invokestatic idx, 3))
    (kk : ∀ (H1 : Heap) (locs1 : List Loc), RC x r.1 r.2 H1 → va_S (AC K0) s.heap H1 locs1 → W p l e R s m args below meth c0 H1 locs1 (kz r.1 - kz K0) (ku r.1 - ku K0) Q (F0 m (pc + 3) ls (rest))) : W p l e R s m args below meth c0 H locs (kz K - kz K0) (ku K - ku K0) Q (F0 m pc ls st) := by
  have hev := fun (U : State) (hU : U.heap = H) (hW : s.WarmedH U.vm) => CX.ev hS hU hW
  obtain ⟨hx, hb, hml, hown, hts, hE, hB, hr, hlk⟩ := CX
  obtain ⟨h1, h2, h3, h5, hd⟩ := hw
  obtain ⟨e1, e2⟩ := cnt hL hq
  subst hst
  have hp : PreS s H (PCm x K M As) As := ⟨PCm_blind, fun U hU hW => ⟨rfl, by rw [hU]; exact hR, hev U hU hW⟩⟩
  rcases h1 with h1 | ⟨host, h1⟩
  · refine va_callv (va_runS (As := As) (rest := rest) ⟨hx, hb, hml, hown, hts⟩ hM (va_cwS (rm := rmA fr lo _ _) n hts (lwg_good (fun w hw => ?_)) rfl rfl rfl hd hrm) hp rfl hn hsz rfl (lv_room hcat) hdg ⟨by show _ + (kz r.1 - kz K) ≤ _; rw [e1]; exact hbud.1, by show _ + (ku r.1 - ku K) ≤ _; rw [e2]; exact hbud.2⟩) hS (fun q _ h => hL.AC q h) (fun q h => hL.AC q h) (fun u t H1 locs1 ht hvm hw hB1 hz hk1 hS1 => ?_)
    · simp only [va_wsS, List.mem_append, List.mem_cons, List.not_mem_nil, or_false] at hw
      rcases hw with (rfl | rfl | rfl) | (rfl | hw)
      · exact h1
      · exact h2
      · exact h3
      · exact h5
      · exact hw
    · rw [ht] at hB1
      refine W.cs e1 e2 (kk H1 locs1 hB1 hS1)
  · refine va_callv (va_runSN (As := As) (rest := rest) ⟨hx, hb, hml, hown, hts⟩ hM ⟨va_cnB (rm := rmA fr lo _ _) n hts (lwg_good (wsM_in h5)) rfl rfl rfl (hE.2.1 _ h1) (hts _ h3) hd hrm, hts _ h2, trivial⟩ hp rfl hn hsz rfl (lv_room hcat) hdg ⟨by show _ + (kz r.1 - kz K) ≤ _; rw [e1]; exact hbud.1, by show _ + (ku r.1 - ku K) ≤ _; rw [e2]; exact hbud.2⟩) hS (fun q _ h => hL.AC q h) (fun q h => hL.AC q h) (fun u t H1 locs1 ht hvm hw hB1 hz hk1 hS1 => ?_)
    rw [ht] at hB1
    refine W.cs e1 e2 (kk H1 locs1 hB1 hS1)

theorem ta_callVi (CX : CC p s m args meth c0 x K0 own cc nL rt) (hL : KLe K0 K) (hR : RC x K M H) (hS : va_S (AC K0) s.heap H locs) {idx : Nat} {y : MethodName} {bytes : ByteArray} {nL' n fr lo : Nat} {As st : List Value} {qz : Array Value → State → Outcome → State → Prop} {r : Ka × Cm} {a : Nat} (hM : Tc sV (aQV x K) qz exn l x y bytes nL' none fr lo (.ref a :: As) K M (.inl r)) (hw : CWi own idx y bytes nL' n) (hrm : fr + 1 ≤ R.frames ∧ 8 + (nL' + 11) + lo ≤ R.locals) (hn : As.length = n) (hcat : (rest.map fun v => v.category).sum ≤ 8) (hsz : ls.size = nL) (hq : KLe K r.1) (hbud : kz r.1 - kz K0 ≤ R.cells ∧ ku r.1 - ku K0 ≤ R.slots) (hst : st = As.reverse ++ .ref a :: rest) (hdg : decode cc pc = .ok (.invokespecial idx, 3))
    (kk : ∀ (H1 : Heap) (locs1 : List Loc), RC x r.1 r.2 H1 → va_S (AC K0) s.heap H1 locs1 → W p l e R s m args below meth c0 H1 locs1 (kz r.1 - kz K0) (ku r.1 - ku K0) Q (F0 m (pc + 3) ls (rest))) : W p l e R s m args below meth c0 H locs (kz K - kz K0) (ku K - ku K0) Q (F0 m pc ls st) := by
  have hev := fun (U : State) (hU : U.heap = H) (hW : s.WarmedH U.vm) => CX.ev hS hU hW
  obtain ⟨hx, hb, hml, hown, hts, hE, hB, hr, hlk⟩ := CX
  obtain ⟨h1, h2, h3, h5, hy, hd⟩ := hw
  obtain ⟨e1, e2⟩ := cnt hL hq
  subst hst
  have hp : PreS s H (PCm x K M (.ref a :: As)) (.ref a :: As) := ⟨PCm_blind, fun U hU hW => ⟨rfl, by rw [hU]; exact hR, hev U hU hW⟩⟩
  rcases h1 with h1 | ⟨host, h1⟩
  · refine va_callv (va_runI (As := As) (rest := rest) ⟨hx, hb, hml, hown, hts⟩ hM (cwI (rm := rmA fr lo _ _) n hts (lwg_good (wsM_in h5)) rfl rfl rfl (hts _ h3) (hts _ h1) (hts _ h2) hy hd hrm) hp rfl hn hsz rfl (lv_room hcat) hdg ⟨by show _ + (kz r.1 - kz K) ≤ _; rw [e1]; exact hbud.1, by show _ + (ku r.1 - ku K) ≤ _; rw [e2]; exact hbud.2⟩) hS (fun q _ h => hL.AC q h) (fun q h => hL.AC q h) (fun u t H1 locs1 ht hvm hw hB1 hz hk1 hS1 => ?_)
    rw [ht] at hB1
    refine W.cs e1 e2 (kk H1 locs1 hB1 hS1)
  · refine va_callv (va_runIN (As := As) (rest := rest) ⟨hx, hb, hml, hown, hts⟩ hM ⟨va_cnB (rm := rmA fr lo _ _) n hts (lwg_good (wsM_in h5)) rfl rfl rfl (hE.2.1 _ h1) (hts _ h3) hd hrm, hy, hts _ h2⟩ hp rfl hn hsz rfl (lv_room hcat) hdg ⟨by show _ + (kz r.1 - kz K) ≤ _; rw [e1]; exact hbud.1, by show _ + (ku r.1 - ku K) ≤ _; rw [e2]; exact hbud.2⟩) hS (fun q _ h => hL.AC q h) (fun q h => hL.AC q h) (fun u t H1 locs1 ht hvm hw hB1 hz hk1 hS1 => ?_)
    rw [ht] at hB1
    refine W.cs e1 e2 (kk H1 locs1 hB1 hS1)

theorem ta_callIv (hC : KC c C T ty) (CX : CC p s m args meth c0 x K0 own cc nL rt) (hL : KLe K0 K) (hR : RC x K M H) (hS : va_S (AC K0) s.heap H locs) {idx : Nat} {y : MethodName} {bytes : ByteArray} {nL' n fr lo : Nat} {rt' : Option FieldType} {As st : List Value} {qz : Array Value → State → Outcome → State → Prop} {r : Int32 × Ka × Cm} {a : Nat} (hk : (kd K a == c + 1) = true) (hM : Tc sT (aQI x K) qz exn l x y bytes nL' rt' fr lo (.ref a :: As) K M (.inl r)) (hw : CWv own idx C y bytes nL' rt' n) (hrm : fr + 1 ≤ R.frames ∧ 8 + (nL' + 11) + lo ≤ R.locals) (hn : As.length = n) (hcat : (rest.map fun v => v.category).sum ≤ 8) (hsz : ls.size = nL) (hq : KLe K r.2.1) (hbud : kz r.2.1 - kz K0 ≤ R.cells ∧ ku r.2.1 - ku K0 ≤ R.slots) (hst : st = As.reverse ++ .ref a :: rest) (hdg : decode cc pc = .ok (.invokevirtual idx, 3))
    (kk : ∀ (H1 : Heap) (locs1 : List Loc), RC x r.2.1 r.2.2 H1 → va_S (AC K0) s.heap H1 locs1 → W p l e R s m args below meth c0 H1 locs1 (kz r.2.1 - kz K0) (ku r.2.1 - ku K0) Q (F0 m (pc + 3) ls (.int r.1 :: rest))) : W p l e R s m args below meth c0 H locs (kz K - kz K0) (ku K - ku K0) Q (F0 m pc ls st) := by
  have hk : kd K a = c + 1 := by simpa using hk
  have hev := fun (U : State) (hU : U.heap = H) (hW : s.WarmedH U.vm) => CX.ev hS hU hW
  obtain ⟨hx, hb, hml, hown, hts, hE, hB, hr, hlk⟩ := CX
  obtain ⟨e1, e2⟩ := cnt hL hq
  subst hst
  refine va_calli (va_runV (As := As) (rest := rest) ⟨hx, hb, hml, hown, hts⟩ hM (hw.cw (rm := rmA fr lo _ _) hts rfl rfl hrm) ⟨PCm_blind, hR.recv hC hE.1 hk, fun U hU hW => ⟨rfl, by rw [hU]; exact hR, hev U hU hW⟩⟩ rfl hn hsz rfl (lv_room hcat) hdg ⟨by show _ + (kz r.2.1 - kz K) ≤ _; rw [e1]; exact hbud.1, by show _ + (ku r.2.1 - ku K) ≤ _; rw [e2]; exact hbud.2⟩) hS (fun q _ h => hL.AC q h) (fun q h => hL.AC q h) (fun r9 u t H1 locs1 ht hvm hw hB1 hz hk1 hS1 => ?_)
  rw [ht] at hB1
  subst hw; refine W.cs e1 e2 (kk H1 locs1 hB1 hS1)

theorem ta_callIs (CX : CC p s m args meth c0 x K0 own cc nL rt) (hL : KLe K0 K) (hR : RC x K M H) (hS : va_S (AC K0) s.heap H locs) {idx : Nat} {y : MethodName} {bytes : ByteArray} {nL' n fr lo : Nat} {rt' : Option FieldType} {As st : List Value} {qz : Array Value → State → Outcome → State → Prop} {r : Int32 × Ka × Cm} (hM : Tc sT (aQI x K) qz exn l x y bytes nL' rt' fr lo As K M (.inl r)) (hw : CWs own idx y bytes nL' rt' n) (hrm : fr + 1 ≤ R.frames ∧ 8 + (nL' + 11) + lo ≤ R.locals) (hn : As.length = n) (hcat : (rest.map fun v => v.category).sum ≤ 8) (hsz : ls.size = nL) (hq : KLe K r.2.1) (hbud : kz r.2.1 - kz K0 ≤ R.cells ∧ ku r.2.1 - ku K0 ≤ R.slots) (hst : st = As.reverse ++ rest) (hdg : decode cc pc = .ok (.invokestatic idx, 3))
    (kk : ∀ (H1 : Heap) (locs1 : List Loc), RC x r.2.1 r.2.2 H1 → va_S (AC K0) s.heap H1 locs1 → W p l e R s m args below meth c0 H1 locs1 (kz r.2.1 - kz K0) (ku r.2.1 - ku K0) Q (F0 m (pc + 3) ls (.int r.1 :: rest))) : W p l e R s m args below meth c0 H locs (kz K - kz K0) (ku K - ku K0) Q (F0 m pc ls st) := by
  have hev := fun (U : State) (hU : U.heap = H) (hW : s.WarmedH U.vm) => CX.ev hS hU hW
  obtain ⟨hx, hb, hml, hown, hts, hE, hB, hr, hlk⟩ := CX
  obtain ⟨h1, h2, h3, h5, hd⟩ := hw
  obtain ⟨e1, e2⟩ := cnt hL hq
  subst hst
  have hp : PreS s H (PCm x K M As) As := ⟨PCm_blind, fun U hU hW => ⟨rfl, by rw [hU]; exact hR, hev U hU hW⟩⟩
  rcases h1 with h1 | ⟨host, h1⟩
  · refine va_calli (va_runS (As := As) (rest := rest) ⟨hx, hb, hml, hown, hts⟩ hM (va_cwS (rm := rmA fr lo _ _) n hts (lwg_good (fun w hw => ?_)) rfl rfl rfl hd hrm) hp rfl hn hsz rfl (lv_room hcat) hdg ⟨by show _ + (kz r.2.1 - kz K) ≤ _; rw [e1]; exact hbud.1, by show _ + (ku r.2.1 - ku K) ≤ _; rw [e2]; exact hbud.2⟩) hS (fun q _ h => hL.AC q h) (fun q h => hL.AC q h) (fun r9 u t H1 locs1 ht hvm hw hB1 hz hk1 hS1 => ?_)
    · simp only [va_wsS, List.mem_append, List.mem_cons, List.not_mem_nil, or_false] at hw
      rcases hw with (rfl | rfl | rfl) | (rfl | hw)
      · exact h1
      · exact h2
      · exact h3
      · exact h5
      · exact hw
    · rw [ht] at hB1
      subst hw; refine W.cs e1 e2 (kk H1 locs1 hB1 hS1)
  · refine va_calli (va_runSN (As := As) (rest := rest) ⟨hx, hb, hml, hown, hts⟩ hM ⟨va_cnB (rm := rmA fr lo _ _) n hts (lwg_good (wsM_in h5)) rfl rfl rfl (hE.2.1 _ h1) (hts _ h3) hd hrm, hts _ h2, trivial⟩ hp rfl hn hsz rfl (lv_room hcat) hdg ⟨by show _ + (kz r.2.1 - kz K) ≤ _; rw [e1]; exact hbud.1, by show _ + (ku r.2.1 - ku K) ≤ _; rw [e2]; exact hbud.2⟩) hS (fun q _ h => hL.AC q h) (fun q h => hL.AC q h) (fun r9 u t H1 locs1 ht hvm hw hB1 hz hk1 hS1 => ?_)
    rw [ht] at hB1
    subst hw; refine W.cs e1 e2 (kk H1 locs1 hB1 hS1)

theorem ta_callLv (hC : KC c C T ty) (CX : CC p s m args meth c0 x K0 own cc nL rt) (hL : KLe K0 K) (hR : RC x K M H) (hS : va_S (AC K0) s.heap H locs) {idx : Nat} {y : MethodName} {bytes : ByteArray} {nL' n fr lo : Nat} {rt' : Option FieldType} {As st : List Value} {qz : Array Value → State → Outcome → State → Prop} {r : Int64 × Ka × Cm} {a : Nat} (hk : (kd K a == c + 1) = true) (hM : Tc sT (aQL x K) qz exn l x y bytes nL' rt' fr lo (.ref a :: As) K M (.inl r)) (hw : CWv own idx C y bytes nL' rt' n) (hrm : fr + 1 ≤ R.frames ∧ 8 + (nL' + 11) + lo ≤ R.locals) (hn : As.length = n) (hcat : (rest.map fun v => v.category).sum ≤ 8) (hsz : ls.size = nL) (hq : KLe K r.2.1) (hbud : kz r.2.1 - kz K0 ≤ R.cells ∧ ku r.2.1 - ku K0 ≤ R.slots) (hst : st = As.reverse ++ .ref a :: rest) (hdg : decode cc pc = .ok (.invokevirtual idx, 3))
    (kk : ∀ (H1 : Heap) (locs1 : List Loc), RC x r.2.1 r.2.2 H1 → va_S (AC K0) s.heap H1 locs1 → W p l e R s m args below meth c0 H1 locs1 (kz r.2.1 - kz K0) (ku r.2.1 - ku K0) Q (F0 m (pc + 3) ls (.long r.1 :: rest))) : W p l e R s m args below meth c0 H locs (kz K - kz K0) (ku K - ku K0) Q (F0 m pc ls st) := by
  have hk : kd K a = c + 1 := by simpa using hk
  have hev := fun (U : State) (hU : U.heap = H) (hW : s.WarmedH U.vm) => CX.ev hS hU hW
  obtain ⟨hx, hb, hml, hown, hts, hE, hB, hr, hlk⟩ := CX
  obtain ⟨e1, e2⟩ := cnt hL hq
  subst hst
  refine va_calll (va_runV (As := As) (rest := rest) ⟨hx, hb, hml, hown, hts⟩ hM (hw.cw (rm := rmA fr lo _ _) hts rfl rfl hrm) ⟨PCm_blind, hR.recv hC hE.1 hk, fun U hU hW => ⟨rfl, by rw [hU]; exact hR, hev U hU hW⟩⟩ rfl hn hsz rfl (lv_room hcat) hdg ⟨by show _ + (kz r.2.1 - kz K) ≤ _; rw [e1]; exact hbud.1, by show _ + (ku r.2.1 - ku K) ≤ _; rw [e2]; exact hbud.2⟩) hS (fun q _ h => hL.AC q h) (fun q h => hL.AC q h) (fun r9 u t H1 locs1 ht hvm hw hB1 hz hk1 hS1 => ?_)
  rw [ht] at hB1
  subst hw; refine W.cs e1 e2 (kk H1 locs1 hB1 hS1)

theorem ta_callLs (CX : CC p s m args meth c0 x K0 own cc nL rt) (hL : KLe K0 K) (hR : RC x K M H) (hS : va_S (AC K0) s.heap H locs) {idx : Nat} {y : MethodName} {bytes : ByteArray} {nL' n fr lo : Nat} {rt' : Option FieldType} {As st : List Value} {qz : Array Value → State → Outcome → State → Prop} {r : Int64 × Ka × Cm} (hM : Tc sT (aQL x K) qz exn l x y bytes nL' rt' fr lo As K M (.inl r)) (hw : CWs own idx y bytes nL' rt' n) (hrm : fr + 1 ≤ R.frames ∧ 8 + (nL' + 11) + lo ≤ R.locals) (hn : As.length = n) (hcat : (rest.map fun v => v.category).sum ≤ 8) (hsz : ls.size = nL) (hq : KLe K r.2.1) (hbud : kz r.2.1 - kz K0 ≤ R.cells ∧ ku r.2.1 - ku K0 ≤ R.slots) (hst : st = As.reverse ++ rest) (hdg : decode cc pc = .ok (.invokestatic idx, 3))
    (kk : ∀ (H1 : Heap) (locs1 : List Loc), RC x r.2.1 r.2.2 H1 → va_S (AC K0) s.heap H1 locs1 → W p l e R s m args below meth c0 H1 locs1 (kz r.2.1 - kz K0) (ku r.2.1 - ku K0) Q (F0 m (pc + 3) ls (.long r.1 :: rest))) : W p l e R s m args below meth c0 H locs (kz K - kz K0) (ku K - ku K0) Q (F0 m pc ls st) := by
  have hev := fun (U : State) (hU : U.heap = H) (hW : s.WarmedH U.vm) => CX.ev hS hU hW
  obtain ⟨hx, hb, hml, hown, hts, hE, hB, hr, hlk⟩ := CX
  obtain ⟨h1, h2, h3, h5, hd⟩ := hw
  obtain ⟨e1, e2⟩ := cnt hL hq
  subst hst
  have hp : PreS s H (PCm x K M As) As := ⟨PCm_blind, fun U hU hW => ⟨rfl, by rw [hU]; exact hR, hev U hU hW⟩⟩
  rcases h1 with h1 | ⟨host, h1⟩
  · refine va_calll (va_runS (As := As) (rest := rest) ⟨hx, hb, hml, hown, hts⟩ hM (va_cwS (rm := rmA fr lo _ _) n hts (lwg_good (fun w hw => ?_)) rfl rfl rfl hd hrm) hp rfl hn hsz rfl (lv_room hcat) hdg ⟨by show _ + (kz r.2.1 - kz K) ≤ _; rw [e1]; exact hbud.1, by show _ + (ku r.2.1 - ku K) ≤ _; rw [e2]; exact hbud.2⟩) hS (fun q _ h => hL.AC q h) (fun q h => hL.AC q h) (fun r9 u t H1 locs1 ht hvm hw hB1 hz hk1 hS1 => ?_)
    · simp only [va_wsS, List.mem_append, List.mem_cons, List.not_mem_nil, or_false] at hw
      rcases hw with (rfl | rfl | rfl) | (rfl | hw)
      · exact h1
      · exact h2
      · exact h3
      · exact h5
      · exact hw
    · rw [ht] at hB1
      subst hw; refine W.cs e1 e2 (kk H1 locs1 hB1 hS1)
  · refine va_calll (va_runSN (As := As) (rest := rest) ⟨hx, hb, hml, hown, hts⟩ hM ⟨va_cnB (rm := rmA fr lo _ _) n hts (lwg_good (wsM_in h5)) rfl rfl rfl (hE.2.1 _ h1) (hts _ h3) hd hrm, hts _ h2, trivial⟩ hp rfl hn hsz rfl (lv_room hcat) hdg ⟨by show _ + (kz r.2.1 - kz K) ≤ _; rw [e1]; exact hbud.1, by show _ + (ku r.2.1 - ku K) ≤ _; rw [e2]; exact hbud.2⟩) hS (fun q _ h => hL.AC q h) (fun q h => hL.AC q h) (fun r9 u t H1 locs1 ht hvm hw hB1 hz hk1 hS1 => ?_)
    rw [ht] at hB1
    subst hw; refine W.cs e1 e2 (kk H1 locs1 hB1 hS1)

theorem ta_callAv (hC : KC c C T ty) (CX : CC p s m args meth c0 x K0 own cc nL rt) (hL : KLe K0 K) (hR : RC x K M H) (hS : va_S (AC K0) s.heap H locs) {idx : Nat} {y : MethodName} {bytes : ByteArray} {nL' n fr lo : Nat} {rt' : Option FieldType} {As st : List Value} {qz : Array Value → State → Outcome → State → Prop} {r : Nat × Ka × Cm} {a : Nat} (hk : (kd K a == c + 1) = true) (hM : Tc sT (aQA x K) qz exn l x y bytes nL' rt' fr lo (.ref a :: As) K M (.inl r)) (hw : CWv own idx C y bytes nL' rt' n) (hrm : fr + 1 ≤ R.frames ∧ 8 + (nL' + 11) + lo ≤ R.locals) (hn : As.length = n) (hcat : (rest.map fun v => v.category).sum ≤ 8) (hsz : ls.size = nL) (hq : KLe K r.2.1) (hbud : kz r.2.1 - kz K0 ≤ R.cells ∧ ku r.2.1 - ku K0 ≤ R.slots) (hst : st = As.reverse ++ .ref a :: rest) (hdg : decode cc pc = .ok (.invokevirtual idx, 3))
    (kk : ∀ (H1 : Heap) (locs1 : List Loc), RC x r.2.1 r.2.2 H1 → va_S (AC K0) s.heap H1 locs1 → W p l e R s m args below meth c0 H1 locs1 (kz r.2.1 - kz K0) (ku r.2.1 - ku K0) Q (F0 m (pc + 3) ls (.ref r.1 :: rest))) : W p l e R s m args below meth c0 H locs (kz K - kz K0) (ku K - ku K0) Q (F0 m pc ls st) := by
  have hk : kd K a = c + 1 := by simpa using hk
  have hev := fun (U : State) (hU : U.heap = H) (hW : s.WarmedH U.vm) => CX.ev hS hU hW
  obtain ⟨hx, hb, hml, hown, hts, hE, hB, hr, hlk⟩ := CX
  obtain ⟨e1, e2⟩ := cnt hL hq
  subst hst
  refine va_callr (va_runV (As := As) (rest := rest) ⟨hx, hb, hml, hown, hts⟩ hM (hw.cw (rm := rmA fr lo _ _) hts rfl rfl hrm) ⟨PCm_blind, hR.recv hC hE.1 hk, fun U hU hW => ⟨rfl, by rw [hU]; exact hR, hev U hU hW⟩⟩ rfl hn hsz rfl (lv_room hcat) hdg ⟨by show _ + (kz r.2.1 - kz K) ≤ _; rw [e1]; exact hbud.1, by show _ + (ku r.2.1 - ku K) ≤ _; rw [e2]; exact hbud.2⟩) hS (fun q _ h => hL.AC q h) (fun q h => hL.AC q h) (fun u a9 t H1 locs1 ht hvm hw hB1 hz hk1 hS1 => ?_)
  obtain ⟨ha9, hB1⟩ := hB1; rw [ht] at hB1; subst ha9
  refine W.cs e1 e2 (kk H1 locs1 hB1 hS1)

theorem ta_callAs (CX : CC p s m args meth c0 x K0 own cc nL rt) (hL : KLe K0 K) (hR : RC x K M H) (hS : va_S (AC K0) s.heap H locs) {idx : Nat} {y : MethodName} {bytes : ByteArray} {nL' n fr lo : Nat} {rt' : Option FieldType} {As st : List Value} {qz : Array Value → State → Outcome → State → Prop} {r : Nat × Ka × Cm} (hM : Tc sT (aQA x K) qz exn l x y bytes nL' rt' fr lo As K M (.inl r)) (hw : CWs own idx y bytes nL' rt' n) (hrm : fr + 1 ≤ R.frames ∧ 8 + (nL' + 11) + lo ≤ R.locals) (hn : As.length = n) (hcat : (rest.map fun v => v.category).sum ≤ 8) (hsz : ls.size = nL) (hq : KLe K r.2.1) (hbud : kz r.2.1 - kz K0 ≤ R.cells ∧ ku r.2.1 - ku K0 ≤ R.slots) (hst : st = As.reverse ++ rest) (hdg : decode cc pc = .ok (.invokestatic idx, 3))
    (kk : ∀ (H1 : Heap) (locs1 : List Loc), RC x r.2.1 r.2.2 H1 → va_S (AC K0) s.heap H1 locs1 → W p l e R s m args below meth c0 H1 locs1 (kz r.2.1 - kz K0) (ku r.2.1 - ku K0) Q (F0 m (pc + 3) ls (.ref r.1 :: rest))) : W p l e R s m args below meth c0 H locs (kz K - kz K0) (ku K - ku K0) Q (F0 m pc ls st) := by
  have hev := fun (U : State) (hU : U.heap = H) (hW : s.WarmedH U.vm) => CX.ev hS hU hW
  obtain ⟨hx, hb, hml, hown, hts, hE, hB, hr, hlk⟩ := CX
  obtain ⟨h1, h2, h3, h5, hd⟩ := hw
  obtain ⟨e1, e2⟩ := cnt hL hq
  subst hst
  have hp : PreS s H (PCm x K M As) As := ⟨PCm_blind, fun U hU hW => ⟨rfl, by rw [hU]; exact hR, hev U hU hW⟩⟩
  rcases h1 with h1 | ⟨host, h1⟩
  · refine va_callr (va_runS (As := As) (rest := rest) ⟨hx, hb, hml, hown, hts⟩ hM (va_cwS (rm := rmA fr lo _ _) n hts (lwg_good (fun w hw => ?_)) rfl rfl rfl hd hrm) hp rfl hn hsz rfl (lv_room hcat) hdg ⟨by show _ + (kz r.2.1 - kz K) ≤ _; rw [e1]; exact hbud.1, by show _ + (ku r.2.1 - ku K) ≤ _; rw [e2]; exact hbud.2⟩) hS (fun q _ h => hL.AC q h) (fun q h => hL.AC q h) (fun u a9 t H1 locs1 ht hvm hw hB1 hz hk1 hS1 => ?_)
    · simp only [va_wsS, List.mem_append, List.mem_cons, List.not_mem_nil, or_false] at hw
      rcases hw with (rfl | rfl | rfl) | (rfl | hw)
      · exact h1
      · exact h2
      · exact h3
      · exact h5
      · exact hw
    · obtain ⟨ha9, hB1⟩ := hB1; rw [ht] at hB1; subst ha9
      refine W.cs e1 e2 (kk H1 locs1 hB1 hS1)
  · refine va_callr (va_runSN (As := As) (rest := rest) ⟨hx, hb, hml, hown, hts⟩ hM ⟨va_cnB (rm := rmA fr lo _ _) n hts (lwg_good (wsM_in h5)) rfl rfl rfl (hE.2.1 _ h1) (hts _ h3) hd hrm, hts _ h2, trivial⟩ hp rfl hn hsz rfl (lv_room hcat) hdg ⟨by show _ + (kz r.2.1 - kz K) ≤ _; rw [e1]; exact hbud.1, by show _ + (ku r.2.1 - ku K) ≤ _; rw [e2]; exact hbud.2⟩) hS (fun q _ h => hL.AC q h) (fun q h => hL.AC q h) (fun u a9 t H1 locs1 ht hvm hw hB1 hz hk1 hS1 => ?_)
    obtain ⟨ha9, hB1⟩ := hB1; rw [ht] at hB1; subst ha9
    refine W.cs e1 e2 (kk H1 locs1 hB1 hS1)

theorem tx_fin {α : Type} {st8 : α → Ka × Cm} {qr8 : α → Array Value → State → Outcome → State → Prop} {q : Ka × Cm} (hno : ∀ z ∈ c0.exceptionTable.toList, False) (hlk : meth.locks = false) {H1 : Heap} {locs1 : List Loc} {cells slots : Nat} {E : String} {ce : Cell} {q9 : Addr} {t : State} (ht : t.heap = H1) (hB1 : E = exn ∧ RCx x q t.heap) (hS1 : va_S (AC K0) s.heap H1 locs1) (hce : H1[q9]? = some ce) (hcv : ce.vm = .none) (hcl : s.vm.findClass E = some ce.cls) (h1 : cells ≤ kz q.1 - kz K0 + 1) (h2 : slots ≤ ku q.1 - ku K0 + 6) :
    vx_W p l e R s m args below meth c0 H1 locs1 cells slots (TQ st8 qr8 (zQV K0) exn x K0 below args s (.inr q)) (F0 m pc ls rest) q9 := by
  refine vx_out (fun z hz => (hno z hz).elim) hlk hce hcv hcl (fun t2 ht2 _ => ⟨(), trivial, ⟨hB1.1, ?_⟩, hS1.F ht2⟩) hS1.2.2 h1 h2
  rw [ht2, ← ht]
  exact hB1.2
theorem tx_callv (hC : KC c C T ty) (CTX : CT p l s m args meth c0 x K0 own nm cc nL rt) (hL : KLe K0 K) (hR : RC x K M H) (hS : va_S (AC K0) s.heap H locs) {idx : Nat} {y : MethodName} {bytes : ByteArray} {nL' n fr lo : Nat} {rt' : Option FieldType} {As st : List Value} {α β : Type} {st8 : α → Ka × Cm} {qr8 : α → Array Value → State → Outcome → State → Prop} {st9 : β → Ka × Cm} {qr9 : β → Array Value → State → Outcome → State → Prop} {q : Ka × Cm} {a : Nat} (hk : (kd K a == c + 1) = true) (hM : Tc st9 qr9 (zQV K) exn l x y bytes nL' rt' fr lo (.ref a :: As) K M (.inr q)) (hw : CWv own idx C y bytes nL' rt' n) (hrm : fr + 1 ≤ R.frames ∧ 8 + (nL' + 11) + lo ≤ R.locals) (hn : As.length = n) (hcat : (rest.map fun v => v.category).sum ≤ 8) (hsz : ls.size = nL) (hq : KLe K q.1) (hbud : kz q.1 - kz K0 + 1 ≤ R.cells ∧ ku q.1 - ku K0 + 6 ≤ R.slots) (hst : st = As.reverse ++ .ref a :: rest) (hdg : decode cc pc = .ok (.invokevirtual idx, 3)) :
    W p l e R s m args below meth c0 H locs (kz K - kz K0) (ku K - ku K0) (TQ st8 qr8 (zQV K0) exn x K0 below args s (.inr q)) (F0 m pc ls st) := by
  have hk : kd K a = c + 1 := by simpa using hk
  obtain ⟨CX, hno, hlt, hmn⟩ := CTX
  have hev := fun (U : State) (hU : U.heap = H) (hW : s.WarmedH U.vm) => CX.ev hS hU hW
  obtain ⟨hx, hb, hml, hown, hts, hE, hB, hr, hlk⟩ := CX
  obtain ⟨e1, e2⟩ := cnt hL hq
  have f1 : kz K - kz K0 + (kz q.1 - kz K + 1) = kz q.1 - kz K0 + 1 := by omega
  have f2 : ku K - ku K0 + (ku q.1 - ku K + 6) = ku q.1 - ku K0 + 6 := by omega
  subst hst
  refine vx_callv (vx_runV (As := As) (rest := rest) ⟨hx, hb, hml, hown, hts⟩ hM (hw.cw (rm := rmA fr lo _ _) hts rfl rfl hrm) ⟨PCm_blind, hR.recv hC hE.1 hk, fun U hU hW => ⟨rfl, by rw [hU]; exact hR, hev U hU hW⟩⟩ rfl hn hsz rfl (lv_room hcat) hdg ⟨by show _ + (kz q.1 - kz K + 1) ≤ _; rw [f1]; exact hbud.1, by show _ + (ku q.1 - ku K + 6) ≤ _; rw [f2]; exact hbud.2⟩) hS (fun q _ h => hL.AC q h) (fun q h => hL.AC q h) (fun q _ h => hL.AC q h) (fun E ce q9 u t H1 locs1 ht hvm hp hB1 hz hk1 hS1 hce hcv hcl => ?_) (fun u t H1 locs1 ht hvm hw => hw.elim)
  exact tx_fin hno hlk ht hB1 hS1 hce hcv hcl (Nat.le_of_eq f1) (Nat.le_of_eq f2)
end TCALL
