/-! station() and the law's wrappers: methods that catch -/
theorem fa_X8_21 : FA RX8 21 RX8 TX8 8 1 := ⟨by decide, rfl, Or.inl (lwg_in 540 (by decide +kernel) (by decide +kernel))⟩
theorem fa_X8_100 : FA RX8 100 RX3 TX3 3 5 := ⟨by decide, rfl, Or.inr ⟨"StationStarter", nws_in 258 (by decide +kernel) (by decide +kernel)⟩⟩
theorem cv_X8_91 : CWv RX8 91 RX3 yX3_make cX3_make 2 (some (.object "StationStarter$Station")) 0 := ⟨lwg_in 673 (by decide +kernel) (by decide +kernel), lwg_in 674 (by decide +kernel) (by decide +kernel), lwg_in 675 (by decide +kernel) (by decide +kernel), in_X3, lwg_in 676 (by decide +kernel) (by decide +kernel), by decide +kernel⟩
theorem cv_X8_103 : CWv RX8 103 RX4 yX4_reset cX4_reset 3 none 1 := ⟨lwg_in 1067 (by decide +kernel) (by decide +kernel), lwg_in 1068 (by decide +kernel) (by decide +kernel), lwg_in 1069 (by decide +kernel) (by decide +kernel), in_X4, lwg_in 1070 (by decide +kernel) (by decide +kernel), by decide +kernel⟩
theorem cv_X8_107 : CWv RX8 107 RX0 yX0_empty cX0_empty 1 none 0 := ⟨lwg_in 1088 (by decide +kernel) (by decide +kernel), lwg_in 1089 (by decide +kernel) (by decide +kernel), lwg_in 1090 (by decide +kernel) (by decide +kernel), in_X0, lwg_in 1091 (by decide +kernel) (by decide +kernel), by decide +kernel⟩
theorem cv_L_7 : CWv RL 7 RX8 yX8_unit cX8_unit 4 (some .int) 2 := ⟨lwg_in 1343 (by decide +kernel) (by decide +kernel), lwg_in 1344 (by decide +kernel) (by decide +kernel), lwg_in 1345 (by decide +kernel) (by decide +kernel), in_X8, lwg_in 1346 (by decide +kernel) (by decide +kernel), by decide +kernel⟩
theorem cv_L_15 : CWv RL 15 RX8 yX8_read cX8_read 3 (some .int) 2 := ⟨lwg_in 1367 (by decide +kernel) (by decide +kernel), lwg_in 1368 (by decide +kernel) (by decide +kernel), lwg_in 1369 (by decide +kernel) (by decide +kernel), in_X8, lwg_in 1370 (by decide +kernel) (by decide +kernel), by decide +kernel⟩
theorem cv_L_18 : CWv RL 18 RX8 yX8_device cX8_device 3 (some .int) 2 := ⟨lwg_in 1375 (by decide +kernel) (by decide +kernel), lwg_in 1376 (by decide +kernel) (by decide +kernel), lwg_in 1377 (by decide +kernel) (by decide +kernel), in_X8, lwg_in 1378 (by decide +kernel) (by decide +kernel), by decide +kernel⟩
theorem wk_ise : Cond.classLink RX8 95 "java/lang/IllegalStateException" ∈ lwg := lwg_in 591 (by decide +kernel) (by decide +kernel)
theorem wk_nse : Cond.classLink RL 13 "java/util/NoSuchElementException" ∈ lwg := lwg_in 1342 (by decide +kernel) (by decide +kernel)
theorem wz_ise : Cond.castable "java/lang/IllegalStateException" "java/lang/IllegalStateException" ∈ nws := nws_in 693 (by decide +kernel) (by decide +kernel)
theorem wz_nse : Cond.castable "java/util/NoSuchElementException" "java/util/NoSuchElementException" ∈ nws := nws_in 1349 (by decide +kernel) (by decide +kernel)
abbrev wsH (y : MethodName) (bytes : ByteArray) (nL : Nat) (rt : Option FieldType) (hh : List (Nat × Nat × Nat × Nat)) : List Cond := Cond.codeWith y bytes nL rt hh :: lwg
def tk {α β : Type} (v : Option (α ⊕ (Ka × Cm))) (k : α → Option β) (h : Ka × Cm → Option β) : Option β := match v with
  | some (.inl a) => k a
  | some (.inr q) => h q
  | none => none
theorem tk_some {α β : Type} {v : Option (α ⊕ (Ka × Cm))} {k : α → Option β} {h : Ka × Cm → Option β} {o : β} (hf : tk v k h = some o) : (∃ a, v = some (.inl a) ∧ k a = some o) ∨ ∃ q, v = some (.inr q) ∧ h q = some o := by
  match v, hf with
  | some (.inl a), hf => exact Or.inl ⟨a, rfl, hf⟩
  | some (.inr q), hf => exact Or.inr ⟨q, rfl, hf⟩
  | none, hf => cases hf
theorem kX_le (K : Ka) : KLe K (kX K) := ⟨Nat.le_succ _, Nat.le_add_right _ _, fun a ha => Or.inl ha⟩
/-- the contract of a method with a table that always returns an int -/
def Tw (l : Launch) (x : Xc) (y : MethodName) (bytes : ByteArray) (nL : Nat) (rt : Option FieldType) (hh : List (Nat × Nat × Nat × Nat)) (fr lo : Nat) (av : List Value) (K : Ka) (M : Cm) (o : Int32 × Ka × Cm) : Prop :=
  Met l y (wsH y bytes nL rt hh) (rmA fr lo (kz o.2.1 - kz K) (ku o.2.1 - ku K)) (PCm x K M av) (aQI x K o) (kz o.2.1 - kz K) (ku o.2.1 - ku K) (AC K)
theorem tw_met {l : Launch} {x : Xc} {K : Ka} {M : Cm} {y : MethodName} {bytes : ByteArray} {nL fr lo : Nat} {rt : Option FieldType} {hh : List (Nat × Nat × Nat × Nat)} {av : List Value} {o : Int32 × Ka × Cm} (own : String) (hy : plainName y.cls = true) (hyc : y.cls = own) (hlen : (lg_sl av).length ≤ nL)
    (body : ∀ (p : Program) (e : Env) (s : State) (m : MethodId) (args : Array Value) (below : List Frame) (meth : Method) (c : Code) (ls : Array Slot), CC p s m args meth c x K own bytes nL rt → c.exceptionTable.toList = tableOf hh → RC x K M s.heap → lv_has ls nL (lv_args 0 av) → W p l e (rmA fr lo (kz o.2.1 - kz K) (ku o.2.1 - ku K)) s m args below meth c s.heap [] (kz K - kz K) (ku K - ku K) (MQ below (aQI x K o) args s (kz o.2.1 - kz K) (ku o.2.1 - ku K) (AC K)) (F0 m 0 ls [])) : Tw l x y bytes nL rt hh fr lo av K M o := by
  have ez : kz K - kz K = 0 := Nat.sub_self _
  have eu : ku K - ku K = 0 := Nat.sub_self _
  unfold Tw Met
  refine MetFree.of_bodyS (code := bytes) (maxLocals := nL) (ret := rt) hy ?_ ?_
  · intro args s m h hn
    obtain ⟨m9, meth, c, hn9, h1, h2, h3, h4, -, h5, h6, -⟩ := Cond.codeWith_spec (atoms_spec (ws := wsH y bytes nL rt hh) h _ List.mem_cons_self)
    cases hn.symm.trans hn9
    exact ⟨meth, c, h1, h2, h3, h4, h5, h6⟩
  · intro p e s m args below meth c s₁ B hml hv _
    obtain ⟨rfl, hR, hE⟩ := hv
    have hh0 : s₁.heap = s.heap := by rw [B.state]; rfl
    have hts := atoms_spec (ws := wsH y bytes nL rt hh) B.pre
    have hown : s.vm.findClass own = some m.cls := hyc ▸ findClass_of_methodNamed B.named
    have htab : c.exceptionTable.toList = tableOf hh := vx_table (x := y) B (hts _ List.mem_cons_self)
    have hl := lv_entry av (n := nL) hlen
    have hw := body p e s m _ below meth c _ ⟨B.exec, B.bytes, hml, hown, fun w hw => hts w (List.mem_cons_of_mem _ hw), hE, fun q z => z.elim (fun y => (hR.2.2 q y).1) (fun y => Nat.le_trans hR.2.1 y), B.returns, B.notSynchronized⟩ htab hR hl
    rw [ez, eu] at hw
    rw [← lg_entry_eq] at hw
    obtain ⟨t, a1, o, b1, b2, b3⟩ := hw s₁ hh0 (Stand.of_body B)
    exact ⟨t, o, a1, b1, b2, ⟨b3.1, b3.2⟩⟩
section CATCH
variable {p : Program} {l : Launch} {e : Env} {R : Room} {s : State} {m : MethodId} {args : Array Value} {below : List Frame} {meth : Method} {c0 : Code} {H : Heap} {locs : List Loc} {Q : State → Prop}
variable {cc : ByteArray} {nL : Nat} {rt : Option FieldType} {x : Xc} {K0 K : Ka} {M : Cm} {own C : String} {T : u_T} {ty : Nat → FieldType} {c : Nat} {pc : Nat} {ls : Array Slot} {rest : List Value} {exn : String}
theorem tw_iret (CX : CC p s m args meth c0 x K0 own cc nL (some .int)) (hR : RC x K M H) (hS : va_S (AC K0) s.heap H locs) {o : Int32 × Ka × Cm} {v : Int32} (hf : some (v, K, M) = some o) (hdg : decode cc pc = .ok (.ireturn, 1)) :
    W p l e R s m args below meth c0 H locs (kz K - kz K0) (ku K - ku K0) (MQ below (aQI x K0 o) args s (kz o.2.1 - kz K0) (ku o.2.1 - ku K0) (AC K0)) (F0 m pc ls [.int v]) := by
  obtain ⟨hx, hb, hml, hown, hts, hE, hB, hr, hlk⟩ := CX
  cases hf
  exact W.iret hx hb hr (fun t ht _ => ⟨⟨v, (), rfl, rfl, by show RC _ _ _ t.heap; rw [ht]; exact hR⟩, hS.F ht⟩) hS.2.2 hdg hlk
theorem tx_catch (hC : KC c C T ty) (CX : CC p s m args meth c0 x K0 own cc nL rt) (hL : KLe K0 K) (hR : RC x K M H) (hS : va_S (AC K0) s.heap H locs) {idx : Nat} {y : MethodName} {bytes : ByteArray} {nL' n fr lo : Nat} {rt' : Option FieldType} {As st : List Value} {β : Type} {st9 : β → Ka × Cm} {qr9 : β → Array Value → State → Outcome → State → Prop} {q : Ka × Cm} {a : Nat} (hk : (kd K a == c + 1) = true) (hM : Tc st9 qr9 (zQV K) exn l x y bytes nL' rt' fr lo (.ref a :: As) K M (.inr q)) (hw : CWv own idx C y bytes nL' rt' n) (hrm : fr + 1 ≤ R.frames ∧ 8 + (nL' + 11) + lo ≤ R.locals) (hn : As.length = n) (hcat : (rest.map fun v => v.category).sum ≤ 8) (hsz : ls.size = nL) (hq : KLe K q.1) (hbud : kz (kX q.1) - kz K0 ≤ R.cells ∧ ku (kX q.1) - ku K0 ≤ R.slots) (hst : st = As.reverse ++ .ref a :: rest) (hdg : decode cc pc = .ok (.invokevirtual idx, 3))
    {t1 t2 t3 t4 : Nat} (htab : c0.exceptionTable.toList = tableOf [(t1, t2, t3, t4)]) (hcov : covers ⟨t1, t2, t3, t4⟩ pc = true) (h0 : t4 ≠ 0) (hlink : Cond.classLink own t4 exn ∈ lwg) (hcast : Cond.castable exn exn ∈ nws)
    (kk : ∀ (H1 : Heap) (locs1 : List Loc) (q9 : Nat), RC x (kX q.1) q.2 H1 → va_S (AC K0) s.heap H1 locs1 → W p l e R s m args below meth c0 H1 locs1 (kz (kX q.1) - kz K0) (ku (kX q.1) - ku K0) Q (F0 m t3 ls [.ref q9])) :
    W p l e R s m args below meth c0 H locs (kz K - kz K0) (ku K - ku K0) Q (F0 m pc ls st) := by
  have hk : kd K a = c + 1 := by simpa using hk
  have hev := fun (U : State) (hU : U.heap = H) (hW : s.WarmedH U.vm) => CX.ev hS hU hW
  obtain ⟨hx, hb, hml, hown, hts, hE, hB, hr, hlk⟩ := CX
  obtain ⟨a1, a2, -⟩ := id hL
  obtain ⟨b1, b2, -⟩ := id hq
  have f1 : kz K - kz K0 + (kz q.1 - kz K + 1) = kz (kX q.1) - kz K0 := by show _ = kz q.1 + 1 - kz K0; omega
  have f2 : ku K - ku K0 + (ku q.1 - ku K + 6) = ku (kX q.1) - ku K0 := by show _ = ku q.1 + 6 - ku K0; omega
  subst hst
  refine vx_callv (vx_runV (As := As) (rest := rest) ⟨hx, hb, hml, hown, hts⟩ hM (hw.cw (rm := rmA fr lo _ _) hts rfl rfl hrm) ⟨PCm_blind, hR.recv hC hE.1 hk, fun U hU hW => ⟨rfl, by rw [hU]; exact hR, hev U hU hW⟩⟩ rfl hn hsz rfl (lv_room hcat) hdg ⟨by show _ + (kz q.1 - kz K + 1) ≤ _; rw [f1]; exact hbud.1, by show _ + (ku q.1 - ku K + 6) ≤ _; rw [f2]; exact hbud.2⟩) hS (fun q _ h => hL.AC q h) (fun q h => hL.AC q h) (fun q _ h => hL.AC q h) (fun E ce q9 u t H1 locs1 ht hvm hp hB1 hz hk1 hS1 hce hcv hcl => ?_) (fun u t H1 locs1 ht hvm hw => hw.elim)
  obtain ⟨rfl, hB1⟩ := hB1
  rw [ht] at hB1
  have g := kk H1 locs1 q9 hB1 hS1
  rw [← f1, ← f2] at g
  exact vx_catch hown [] ⟨t1, t2, t3, t4⟩ [] htab (fun z hz => nomatch hz) hcov h0 (hts _ hlink) (va_Nw.use (nw_on hcast) (hE.2.1 _ hcast)) hce hcv hcl g
end CATCH

def bT_X8_station_42 (N : Nat) (x0 a : Nat) (K : Ka) (M : Cm) : Option (Int32 × Ka × Cm) := gd (kd K x0 == 9) (nn (cR (wR M x0 7 (some a)) x0 2) fun a1 => gd (kd K a1 == 5) ((fC_X4_reset N K a1 a (wR M x0 7 (some a))).bind fun o52 => nn (cR o52 x0 4) fun a2 => gd (kd K a2 == 1) ((fC_X0_empty N K a2 o52).bind fun o59 => some (0, K, wI (wI (wI (wI (wI o59 x0 8 0) x0 9 0) x0 10 0) x0 11 0) x0 12 0))))
def bT_X8_station_23 (N : Nat) (x0 : Nat) (v : Option Nat) (K : Ka) (M : Cm) : Option (Int32 × Ka × Cm) := gd (kd K x0 == 9) (nn (cR M x0 0) fun a1 => gd (kd K a1 == 7) ((fC_X6_empty N K a1 M).bind fun o27 => match v with
  | none => nn (cR o27 x0 1) fun a2 => gd (kd K a2 == 4) (some (cI o27 a2 5, K, o27))
  | some a => bT_X8_station_42 N x0 a K o27))
def fT_X8_station (N : Nat) (x0 : Nat) (K : Ka) (M : Cm) : Option (Int32 × Ka × Cm) := gd (kd K x0 == 9) (nn (cR M x0 0) fun a1 => gd (kd K a1 == 7) ((fC_X6_scan N K a1 M).bind fun o4 => nn (cR o4 x0 1) fun a2 => gd (kd K a2 == 4) (tk (fT_X3_make N a2 K o4) (fun r => bT_X8_station_23 N x0 (some r.1) r.2.1 r.2.2) (fun q => bT_X8_station_23 N x0 none (kX q.1) q.2))))
theorem kbT_X8_station_42 {N x0 a : Nat} {K : Ka} {M : Cm} {o : Int32 × Ka × Cm} (hf : bT_X8_station_42 N x0 a K M = some o) : o.2.1 = K := by
  unfold bT_X8_station_42 at hf
  obtain ⟨-, hf⟩ := gd_some hf
  obtain ⟨a1, -, hf⟩ := nn_some hf
  obtain ⟨-, hf⟩ := gd_some hf
  obtain ⟨o52, -, hf⟩ := bnd_some hf
  obtain ⟨a2, -, hf⟩ := nn_some hf
  obtain ⟨-, hf⟩ := gd_some hf
  obtain ⟨o59, -, hf⟩ := bnd_some hf
  cases hf
  rfl
theorem kbT_X8_station_23 {N x0 : Nat} {v : Option Nat} {K : Ka} {M : Cm} {o : Int32 × Ka × Cm} (hf : bT_X8_station_23 N x0 v K M = some o) : o.2.1 = K := by
  unfold bT_X8_station_23 at hf
  obtain ⟨-, hf⟩ := gd_some hf
  obtain ⟨a1, -, hf⟩ := nn_some hf
  obtain ⟨-, hf⟩ := gd_some hf
  obtain ⟨o27, -, hf⟩ := bnd_some hf
  cases v with
  | none =>
    obtain ⟨a2, -, hf⟩ := nn_some hf
    obtain ⟨-, hf⟩ := gd_some hf
    cases hf
    rfl
  | some a => exact kbT_X8_station_42 hf
theorem mfT_X8_station {N x0 : Nat} {K : Ka} {M : Cm} {o : Int32 × Ka × Cm} (hf : fT_X8_station N x0 K M = some o) : KLe K o.2.1 := by
  unfold fT_X8_station at hf
  obtain ⟨-, hf⟩ := gd_some hf
  obtain ⟨a1, -, hf⟩ := nn_some hf
  obtain ⟨-, hf⟩ := gd_some hf
  obtain ⟨o4, -, hf⟩ := bnd_some hf
  obtain ⟨a2, -, hf⟩ := nn_some hf
  obtain ⟨-, hf⟩ := gd_some hf
  rcases tk_some hf with ⟨r, ho, hf⟩ | ⟨q, ho, hf⟩
  · rw [kbT_X8_station_23 hf]
    exact mfT_X3_make _ _ _ ho
  · rw [kbT_X8_station_23 hf]
    exact (mfT_X3_make _ _ _ ho).tr (kX_le _)
section STATION
variable {p : Program} {l : Launch} {e : Env} {R : Room} {s : State} {m : MethodId} {args : Array Value} {below : List Frame} {meth : Method} {c : Code} {x : Xc} {K0 : Ka} {o : Int32 × Ka × Cm} {N : Nat}
set_option maxRecDepth 100000 in
set_option maxHeartbeats 4000000 in
theorem wbT_X8_station_42 (CX : CC p s m args meth c x K0 RX8 cX8_station 3 (some .int)) (hRm : 164 ≤ R.frames ∧ 9274 ≤ R.locals) (hRc : kz o.2.1 - kz K0 ≤ R.cells ∧ ku o.2.1 - ku K0 ≤ R.slots) (x0 a : Nat) (K : Ka) (M : Cm) (H : Heap) (locs : List Loc) (ls : Array Slot) (hf : bT_X8_station_42 N x0 a K M = some o) (hL : KLe K0 K) (hR : RC x K M H) (hS : va_S (AC K0) s.heap H locs) (hl : lv_has ls 3 [(0, .ref x0), (1, .ref a)]) :
    W p l e R s m args below meth c H locs (kz K - kz K0) (ku K - ku K0) (MQ below (aQI x K0 o) args s (kz o.2.1 - kz K0) (ku o.2.1 - ku K0) (AC K0)) (F0 m 42 ls []) := by
  obtain ⟨hx, hb, hml, hown, hts, hE, hB, hr, hlk⟩ := id CX
  rw [kbT_X8_station_42 hf] at hRc
  unfold bT_X8_station_42 at hf
  obtain ⟨hk0, hf⟩ := gd_some hf
  obtain ⟨a1, ha1, hf⟩ := nn_some hf
  obtain ⟨hk1, hf⟩ := gd_some hf
  obtain ⟨o52, ho52, hf⟩ := bnd_some hf
  obtain ⟨a2, ha2, hf⟩ := nn_some hf
  obtain ⟨hk2, hf⟩ := gd_some hf
  obtain ⟨o59, ho59, hf⟩ := bnd_some hf
  refine lv_aload_n hx hb dX8_station_42 rfl (lv_at hl 0 rfl) ?_
  refine lv_aload_n hx hb dX8_station_43 rfl (lv_at hl 1 rfl) ?_
  refine cr_putR kc_8 CX hR hL hS (v := some a) fa_X8_60 ⟨rfl, rfl, .inl ⟨_, rfl⟩⟩ hk0 dX8_station_44 (fun H locs hR hS => ?_)
  refine lv_aload_n hx hb dX8_station_47 rfl (lv_at hl 0 rfl) ?_
  refine cr_getR kc_8 CX hR fa_X8_28 rfl hk0 dX8_station_48 ?_
  refine rf_0 ha1 ?_
  refine lv_aload_n hx hb dX8_station_51 rfl (lv_at hl 1 rfl) ?_
  refine cr_callVv kc_4 CX hR hL hS (As := [.ref a]) (rest := []) hk1 (MC_X4_reset l x N K a1 a _ o52 ho52) cv_X8_103 ⟨by omega, by omega⟩ rfl rfl (Nat.le_of_ble_eq_true rfl) hl.1 dX8_station_52 hRc (fun H locs hR hS => ?_)
  refine lv_aload_n hx hb dX8_station_55 rfl (lv_at hl 0 rfl) ?_
  refine cr_getR kc_8 CX hR fa_X8_38 rfl hk0 dX8_station_56 ?_
  refine rf_0 ha2 ?_
  refine cr_callVv kc_0 CX hR hL hS (As := []) (rest := []) hk2 (MC_X0_empty l x N K a2 _ o59 ho59) cv_X8_107 ⟨by omega, by omega⟩ rfl rfl (Nat.le_of_ble_eq_true rfl) hl.1 dX8_station_59 hRc (fun H locs hR hS => ?_)
  refine lv_aload_n hx hb dX8_station_62 rfl (lv_at hl 0 rfl) ?_
  refine lv_iconst (v := 0) hx hb dX8_station_63 (by decide) ?_
  refine cr_putI kc_8 CX hR hL hS fa_X8_64 ⟨rfl, rfl, rfl⟩ hk0 dX8_station_64 (fun H locs hR hS => ?_)
  refine lv_aload_n hx hb dX8_station_67 rfl (lv_at hl 0 rfl) ?_
  refine lv_iconst (v := 0) hx hb dX8_station_68 (by decide) ?_
  refine cr_putI kc_8 CX hR hL hS fa_X8_68 ⟨rfl, rfl, rfl⟩ hk0 dX8_station_69 (fun H locs hR hS => ?_)
  refine lv_aload_n hx hb dX8_station_72 rfl (lv_at hl 0 rfl) ?_
  refine lv_iconst (v := 0) hx hb dX8_station_73 (by decide) ?_
  refine cr_putI kc_8 CX hR hL hS fa_X8_71 ⟨rfl, rfl, rfl⟩ hk0 dX8_station_74 (fun H locs hR hS => ?_)
  refine lv_aload_n hx hb dX8_station_77 rfl (lv_at hl 0 rfl) ?_
  refine lv_iconst (v := 0) hx hb dX8_station_78 (by decide) ?_
  refine cr_putI kc_8 CX hR hL hS fa_X8_74 ⟨rfl, rfl, rfl⟩ hk0 dX8_station_79 (fun H locs hR hS => ?_)
  refine lv_aload_n hx hb dX8_station_82 rfl (lv_at hl 0 rfl) ?_
  refine lv_iconst (v := 0) hx hb dX8_station_83 (by decide) ?_
  refine cr_putZ kc_8 CX hR hL hS fa_X8_77 ⟨rfl, rfl, rfl⟩ hk0 (v := 0) rfl dX8_station_84 (fun H locs hR hS => ?_)
  refine lv_iconst (v := 0) hx hb dX8_station_87 (by decide) ?_
  exact tw_iret CX hR hS hf dX8_station_88
set_option maxRecDepth 100000 in
set_option maxHeartbeats 4000000 in
theorem wbT_X8_station_23 (CX : CC p s m args meth c x K0 RX8 cX8_station 3 (some .int)) (hRm : 164 ≤ R.frames ∧ 9274 ≤ R.locals) (hRc : kz o.2.1 - kz K0 ≤ R.cells ∧ ku o.2.1 - ku K0 ≤ R.slots) (x0 : Nat) (v : Option Nat) (K : Ka) (M : Cm) (H : Heap) (locs : List Loc) (ls : Array Slot) (hf : bT_X8_station_23 N x0 v K M = some o) (hL : KLe K0 K) (hR : RC x K M H) (hS : va_S (AC K0) s.heap H locs) (hl : lv_has ls 3 [(0, .ref x0), (1, va_rf v)]) :
    W p l e R s m args below meth c H locs (kz K - kz K0) (ku K - ku K0) (MQ below (aQI x K0 o) args s (kz o.2.1 - kz K0) (ku o.2.1 - ku K0) (AC K0)) (F0 m 23 ls []) := by
  obtain ⟨hx, hb, hml, hown, hts, hE, hB, hr, hlk⟩ := id CX
  have hRk := hRc
  rw [kbT_X8_station_23 hf] at hRk
  unfold bT_X8_station_23 at hf
  obtain ⟨hk0, hf⟩ := gd_some hf
  obtain ⟨a1, ha1, hf⟩ := nn_some hf
  obtain ⟨hk1, hf⟩ := gd_some hf
  obtain ⟨o27, ho27, hf⟩ := bnd_some hf
  refine lv_aload_n hx hb dX8_station_23 rfl (lv_at hl 0 rfl) ?_
  refine cr_getR kc_8 CX hR fa_X8_12 rfl hk0 dX8_station_24 ?_
  refine rf_0 ha1 ?_
  refine cr_callVv kc_6 CX hR hL hS (As := []) (rest := []) hk1 (MC_X6_empty l x N K a1 _ o27 ho27) cv_X8_97 ⟨by omega, by omega⟩ rfl rfl (Nat.le_of_ble_eq_true rfl) hl.1 dX8_station_27 hRk (fun H locs hR hS => ?_)
  cases v with
  | none =>
    obtain ⟨a2, ha2, hf⟩ := nn_some hf
    obtain ⟨hk2, hf⟩ := gd_some hf
    refine lv_aload_nN hx hb dX8_station_30 rfl (lv_at hl 1 rfl) ?_
    refine lv_ifnonnullN hx hb dX8_station_31 ?_
    refine lv_aload_n hx hb dX8_station_34 rfl (lv_at hl 0 rfl) ?_
    refine cr_getR kc_8 CX hR fa_X8_21 rfl hk0 dX8_station_35 ?_
    refine rf_0 ha2 ?_
    refine cr_getI kc_3 CX hR fa_X8_100 rfl hk2 dX8_station_38 ?_
    exact tw_iret CX hR hS hf dX8_station_41
  | some a =>
    refine lv_aload_n hx hb dX8_station_30 rfl (lv_at hl 1 rfl) ?_
    refine lv_ifnonnull (tgt := 42) hx hb dX8_station_31 (by decide) ?_
    exact wbT_X8_station_42 CX hRm hRc x0 a K _ _ _ ls hf hL hR hS hl
set_option maxRecDepth 100000 in
set_option maxHeartbeats 4000000 in
theorem wfT_X8_station (hlt : l.stackTraces = false) (CX : CC p s m args meth c x K0 RX8 cX8_station 3 (some .int)) (htab : c.exceptionTable.toList = tableOf [(9, 17, 20, 95)]) (hRm : 164 ≤ R.frames ∧ 9274 ≤ R.locals) (hRc : kz o.2.1 - kz K0 ≤ R.cells ∧ ku o.2.1 - ku K0 ≤ R.slots) (x0 : Nat) (K : Ka) (M : Cm) (H : Heap) (locs : List Loc) (ls : Array Slot) (hf : fT_X8_station N x0 K M = some o) (hL : KLe K0 K) (hR : RC x K M H) (hS : va_S (AC K0) s.heap H locs) (hl : lv_has ls 3 [(0, .ref x0)]) :
    W p l e R s m args below meth c H locs (kz K - kz K0) (ku K - ku K0) (MQ below (aQI x K0 o) args s (kz o.2.1 - kz K0) (ku o.2.1 - ku K0) (AC K0)) (F0 m 0 ls []) := by
  obtain ⟨hx, hb, hml, hown, hts, hE, hB, hr, hlk⟩ := id CX
  have hm0 := mfT_X8_station hf
  have hRk : kz K - kz K0 ≤ R.cells ∧ ku K - ku K0 ≤ R.slots := by
    obtain ⟨g1, g2, -⟩ := hm0
    omega
  unfold fT_X8_station at hf
  obtain ⟨hk0, hf⟩ := gd_some hf
  obtain ⟨a1, ha1, hf⟩ := nn_some hf
  obtain ⟨hk1, hf⟩ := gd_some hf
  obtain ⟨o4, ho4, hf⟩ := bnd_some hf
  obtain ⟨a2, ha2, hf⟩ := nn_some hf
  obtain ⟨hk2, hf⟩ := gd_some hf
  refine lv_aload_n hx hb dX8_station_0 rfl (lv_at hl 0 rfl) ?_
  refine cr_getR kc_8 CX hR fa_X8_12 rfl hk0 dX8_station_1 ?_
  refine rf_0 ha1 ?_
  refine cr_callVv kc_6 CX hR hL hS (As := []) (rest := []) hk1 (MC_X6_scan l x N K a1 _ o4 ho4) cv_X8_88 ⟨by omega, by omega⟩ rfl rfl (Nat.le_of_ble_eq_true rfl) hl.1 dX8_station_4 hRk (fun H locs hR hS => ?_)
  refine lv_null hx hb dX8_station_7 ?_
  refine lv_astore_nN (lv' := [(1, .null), (0, .ref x0)]) hx hb dX8_station_8 rfl hl (by decide) rfl (fun ls hl => ?_)
  refine lv_aload_n hx hb dX8_station_9 rfl (lv_at hl 1 rfl) ?_
  refine cr_getR kc_8 CX hR fa_X8_21 rfl hk0 dX8_station_10 ?_
  refine rf_0 ha2 ?_
  rcases tk_some hf with ⟨r, ho, hf⟩ | ⟨q, ho, hf⟩
  · have hq1 := mfT_X3_make _ _ _ ho
    have hk := kbT_X8_station_23 hf
    refine ta_callAv kc_3 CX hL hR hS (As := []) (rest := []) hk2 (MT_X3_make l x hlt N _ _ _ _ ho) cv_X8_91 ⟨by omega, by omega⟩ rfl (Nat.le_of_ble_eq_true rfl) hl.1 hq1 (by rw [hk] at hRc; exact hRc) rfl dX8_station_13 (fun H locs hR hS => ?_)
    refine lv_astore_n (lv' := [(1, .ref r.1), (0, .ref x0)]) hx hb dX8_station_16 rfl hl (by decide) rfl (fun ls hl => ?_)
    refine lv_goto (tgt := 23) hx hb dX8_station_17 (by decide) ?_
    exact wbT_X8_station_23 CX hRm hRc x0 (some r.1) _ _ _ _ ls hf (hL.tr hq1) hR hS (lv_sub hl [1, 0] rfl)
  · have hq1 := mfT_X3_make _ _ _ ho
    have hk := kbT_X8_station_23 hf
    refine tx_catch kc_3 CX hL hR hS (As := []) (rest := []) hk2 (MT_X3_make l x hlt N _ _ _ _ ho) cv_X8_91 ⟨by omega, by omega⟩ rfl (Nat.le_of_ble_eq_true rfl) hl.1 hq1 (by rw [hk] at hRc; exact hRc) rfl dX8_station_13 htab rfl (by decide) wk_ise wz_ise (fun H locs q9 hR hS => ?_)
    refine lv_astore_n (lv' := [(2, .ref q9), (1, .null), (0, .ref x0)]) hx hb dX8_station_20 rfl hl (by decide) rfl (fun ls hl => ?_)
    refine lv_null hx hb dX8_station_21 ?_
    refine lv_astore_nN (lv' := [(1, .null), (2, .ref q9), (0, .ref x0)]) hx hb dX8_station_22 rfl hl (by decide) rfl (fun ls hl => ?_)
    exact wbT_X8_station_23 CX hRm hRc x0 none _ _ _ _ ls hf (hL.tr (KLe.tr hq1 (kX_le _))) hR hS (lv_sub hl [2, 0] rfl)
end STATION
theorem MT_X8_station (l : Launch) (x : Xc) (hlt : l.stackTraces = false) (N : Nat) (x0 : Nat) (K : Ka) (M : Cm) (o : Int32 × Ka × Cm) (hf : fT_X8_station N x0 K M = some o) : Tw l x yX8_station cX8_station 3 (some .int) [(9, 17, 20, 95)] 164 9274 [.ref x0] K M o :=
  tw_met RX8 (by decide) rfl (Nat.le_of_ble_eq_true rfl) (fun p e s m args below meth c ls CX htab hR hl => wfT_X8_station hlt CX htab ⟨Nat.le_refl _, Nat.le_refl _⟩ ⟨Nat.le_refl _, Nat.le_refl _⟩ x0 K M s.heap [] ls hf (KLe.rf K) hR va_S.rf hl)

def fL_unit (N : Nat) (x0 : Nat) (x1 x2 : Int32) (x3 : Nat) (K : Ka) (M : Cm) : Option (Int32 × Ka × Cm) := gd (kd K x0 == 9) (tk (fT_X8_unit N x0 x1 x2 K M) (fun r => gd (kd r.2.1 x3 == 23) (ck 0 (le r.2.1 x3) (some (0, r.2.1, wL r.2.2 x3 (0 : Int32).toNatClampNeg ((r.1 : Int32).toInt64))))) (fun q => some (1, kX q.1, q.2)))
theorem mfL_unit {N x0 : Nat} {x1 x2 : Int32} {x3 : Nat} {K : Ka} {M : Cm} {o : Int32 × Ka × Cm} (hf : fL_unit N x0 x1 x2 x3 K M = some o) : KLe K o.2.1 := by
  unfold fL_unit at hf
  obtain ⟨-, hf⟩ := gd_some hf
  rcases tk_some hf with ⟨r, ho, hf⟩ | ⟨q, ho, hf⟩
  · obtain ⟨-, hf⟩ := gd_some hf
    obtain ⟨-, hf⟩ := ck_some hf
    cases hf
    exact mfT_X8_unit _ _ _ _ _ ho
  · cases hf
    exact (mfT_X8_unit _ _ _ _ _ ho).tr (kX_le _)
section LWRAP_unit
variable {p : Program} {l : Launch} {e : Env} {R : Room} {s : State} {m : MethodId} {args : Array Value} {below : List Frame} {meth : Method} {c : Code} {x : Xc} {K0 : Ka} {o : Int32 × Ka × Cm} {N : Nat}
set_option maxRecDepth 100000 in
set_option maxHeartbeats 4000000 in
theorem wfL_unit (hlt : l.stackTraces = false) (CX : CC p s m args meth c x K0 RL cL_unit 5 (some .int)) (htab : c.exceptionTable.toList = tableOf [(0, 10, 13, 13)]) (hRm : 7 ≤ R.frames ∧ 118 ≤ R.locals) (hRc : kz o.2.1 - kz K0 ≤ R.cells ∧ ku o.2.1 - ku K0 ≤ R.slots) (x0 : Nat) (x1 x2 : Int32) (x3 : Nat) (K : Ka) (M : Cm) (H : Heap) (locs : List Loc) (ls : Array Slot) (hf : fL_unit N x0 x1 x2 x3 K M = some o) (hL : KLe K0 K) (hR : RC x K M H) (hS : va_S (AC K0) s.heap H locs) (hl : lv_has ls 5 [(0, .ref x0), (1, .int x1), (2, .int x2), (3, .ref x3)]) :
    W p l e R s m args below meth c H locs (kz K - kz K0) (ku K - ku K0) (MQ below (aQI x K0 o) args s (kz o.2.1 - kz K0) (ku o.2.1 - ku K0) (AC K0)) (F0 m 0 ls []) := by
  obtain ⟨hx, hb, hml, hown, hts, hE, hB, hr, hlk⟩ := id CX
  unfold fL_unit at hf
  obtain ⟨hk0, hf⟩ := gd_some hf
  refine lv_aload_n hx hb dL_unit_0 rfl (lv_at hl 3 rfl) ?_
  refine lv_iconst (v := 0) hx hb dL_unit_1 (by decide) ?_
  refine lv_aload_n hx hb dL_unit_2 rfl (lv_at hl 0 rfl) ?_
  refine lv_iload_n hx hb dL_unit_3 rfl (lv_at hl 1 rfl) ?_
  refine lv_iload_n hx hb dL_unit_4 rfl (lv_at hl 2 rfl) ?_
  rcases tk_some hf with ⟨r, ho, hf⟩ | ⟨q, ho, hf⟩
  · have hq1 := mfT_X8_unit _ _ _ _ _ ho
    obtain ⟨hk3, hf⟩ := gd_some hf
    obtain ⟨hi, hf⟩ := ck_some hf
    have hRk : kz r.2.1 - kz K0 ≤ R.cells ∧ ku r.2.1 - ku K0 ≤ R.slots := by cases hf; exact hRc
    refine ta_callIv kc_8 CX hL hR hS (As := [.int x1, .int x2]) (rest := [.int 0, .ref x3]) hk0 (MT_X8_unit l x hlt N _ _ _ _ _ _ ho) cv_L_7 ⟨by omega, by omega⟩ rfl (Nat.le_of_ble_eq_true rfl) hl.1 hq1 hRk rfl dL_unit_5 (fun H locs hR hS => ?_)
    refine lv_i2l (v := (r.1 : Int32).toInt64) hx hb dL_unit_8 rfl ?_
    refine cr_last CX hR (hL.tr hq1) hS hk3 hi dL_unit_9 (fun H locs hR hS => ?_)
    refine lv_goto (tgt := 17) hx hb dL_unit_10 (by decide) ?_
    refine lv_iconst (v := 0) hx hb dL_unit_17 (by decide) ?_
    exact tw_iret CX hR hS hf dL_unit_18
  · have hq1 := mfT_X8_unit _ _ _ _ _ ho
    have hRk : kz (kX q.1) - kz K0 ≤ R.cells ∧ ku (kX q.1) - ku K0 ≤ R.slots := by cases hf; exact hRc
    refine tx_catch kc_8 CX hL hR hS (As := [.int x1, .int x2]) (rest := [.int 0, .ref x3]) hk0 (MT_X8_unit l x hlt N _ _ _ _ _ _ ho) cv_L_7 ⟨by omega, by omega⟩ rfl (Nat.le_of_ble_eq_true rfl) hl.1 hq1 hRk rfl dL_unit_5 htab rfl (by decide) wk_nse wz_nse (fun H locs q9 hR hS => ?_)
    refine lv_astore (lv' := [(4, .ref q9), (0, .ref x0), (1, .int x1), (2, .int x2), (3, .ref x3)]) hx hb dL_unit_13 hl (by decide) rfl (fun ls hl => ?_)
    refine lv_iconst (v := 1) hx hb dL_unit_15 (by decide) ?_
    exact tw_iret CX hR hS hf dL_unit_16
end LWRAP_unit
theorem ML_unit (l : Launch) (x : Xc) (hlt : l.stackTraces = false) (N : Nat) (x0 : Nat) (x1 x2 : Int32) (x3 : Nat) (K : Ka) (M : Cm) (o : Int32 × Ka × Cm) (hf : fL_unit N x0 x1 x2 x3 K M = some o) : Tw l x yL_unit cL_unit 5 (some .int) [(0, 10, 13, 13)] 7 118 [.ref x0, .int x1, .int x2, .ref x3] K M o :=
  tw_met RL (by decide) rfl (Nat.le_of_ble_eq_true rfl) (fun p e s m args below meth c ls CX htab hR hl => wfL_unit hlt CX htab ⟨Nat.le_refl _, Nat.le_refl _⟩ ⟨Nat.le_refl _, Nat.le_refl _⟩ x0 x1 x2 x3 K M s.heap [] ls hf (KLe.rf K) hR va_S.rf hl)

def fL_read (N : Nat) (x0 : Nat) (x1 x2 : Int32) (x3 : Nat) (K : Ka) (M : Cm) : Option (Int32 × Ka × Cm) := gd (kd K x0 == 9) (tk (fT_X8_read N x0 x1 x2 K M) (fun r => gd (kd r.2.1 x3 == 23) (ck 0 (le r.2.1 x3) (some (0, r.2.1, wL r.2.2 x3 (0 : Int32).toNatClampNeg ((r.1 : Int32).toInt64))))) (fun q => some (1, kX q.1, q.2)))
theorem mfL_read {N x0 : Nat} {x1 x2 : Int32} {x3 : Nat} {K : Ka} {M : Cm} {o : Int32 × Ka × Cm} (hf : fL_read N x0 x1 x2 x3 K M = some o) : KLe K o.2.1 := by
  unfold fL_read at hf
  obtain ⟨-, hf⟩ := gd_some hf
  rcases tk_some hf with ⟨r, ho, hf⟩ | ⟨q, ho, hf⟩
  · obtain ⟨-, hf⟩ := gd_some hf
    obtain ⟨-, hf⟩ := ck_some hf
    cases hf
    exact mfT_X8_read _ _ _ _ _ ho
  · cases hf
    exact (mfT_X8_read _ _ _ _ _ ho).tr (kX_le _)
section LWRAP_read
variable {p : Program} {l : Launch} {e : Env} {R : Room} {s : State} {m : MethodId} {args : Array Value} {below : List Frame} {meth : Method} {c : Code} {x : Xc} {K0 : Ka} {o : Int32 × Ka × Cm} {N : Nat}
set_option maxRecDepth 100000 in
set_option maxHeartbeats 4000000 in
theorem wfL_read (hlt : l.stackTraces = false) (CX : CC p s m args meth c x K0 RL cL_read 5 (some .int)) (htab : c.exceptionTable.toList = tableOf [(0, 10, 13, 13)]) (hRm : 7 ≤ R.frames ∧ 118 ≤ R.locals) (hRc : kz o.2.1 - kz K0 ≤ R.cells ∧ ku o.2.1 - ku K0 ≤ R.slots) (x0 : Nat) (x1 x2 : Int32) (x3 : Nat) (K : Ka) (M : Cm) (H : Heap) (locs : List Loc) (ls : Array Slot) (hf : fL_read N x0 x1 x2 x3 K M = some o) (hL : KLe K0 K) (hR : RC x K M H) (hS : va_S (AC K0) s.heap H locs) (hl : lv_has ls 5 [(0, .ref x0), (1, .int x1), (2, .int x2), (3, .ref x3)]) :
    W p l e R s m args below meth c H locs (kz K - kz K0) (ku K - ku K0) (MQ below (aQI x K0 o) args s (kz o.2.1 - kz K0) (ku o.2.1 - ku K0) (AC K0)) (F0 m 0 ls []) := by
  obtain ⟨hx, hb, hml, hown, hts, hE, hB, hr, hlk⟩ := id CX
  unfold fL_read at hf
  obtain ⟨hk0, hf⟩ := gd_some hf
  refine lv_aload_n hx hb dL_read_0 rfl (lv_at hl 3 rfl) ?_
  refine lv_iconst (v := 0) hx hb dL_read_1 (by decide) ?_
  refine lv_aload_n hx hb dL_read_2 rfl (lv_at hl 0 rfl) ?_
  refine lv_iload_n hx hb dL_read_3 rfl (lv_at hl 1 rfl) ?_
  refine lv_iload_n hx hb dL_read_4 rfl (lv_at hl 2 rfl) ?_
  rcases tk_some hf with ⟨r, ho, hf⟩ | ⟨q, ho, hf⟩
  · have hq1 := mfT_X8_read _ _ _ _ _ ho
    obtain ⟨hk3, hf⟩ := gd_some hf
    obtain ⟨hi, hf⟩ := ck_some hf
    have hRk : kz r.2.1 - kz K0 ≤ R.cells ∧ ku r.2.1 - ku K0 ≤ R.slots := by cases hf; exact hRc
    refine ta_callIv kc_8 CX hL hR hS (As := [.int x1, .int x2]) (rest := [.int 0, .ref x3]) hk0 (MT_X8_read l x hlt N _ _ _ _ _ _ ho) cv_L_15 ⟨by omega, by omega⟩ rfl (Nat.le_of_ble_eq_true rfl) hl.1 hq1 hRk rfl dL_read_5 (fun H locs hR hS => ?_)
    refine lv_i2l (v := (r.1 : Int32).toInt64) hx hb dL_read_8 rfl ?_
    refine cr_last CX hR (hL.tr hq1) hS hk3 hi dL_read_9 (fun H locs hR hS => ?_)
    refine lv_goto (tgt := 17) hx hb dL_read_10 (by decide) ?_
    refine lv_iconst (v := 0) hx hb dL_read_17 (by decide) ?_
    exact tw_iret CX hR hS hf dL_read_18
  · have hq1 := mfT_X8_read _ _ _ _ _ ho
    have hRk : kz (kX q.1) - kz K0 ≤ R.cells ∧ ku (kX q.1) - ku K0 ≤ R.slots := by cases hf; exact hRc
    refine tx_catch kc_8 CX hL hR hS (As := [.int x1, .int x2]) (rest := [.int 0, .ref x3]) hk0 (MT_X8_read l x hlt N _ _ _ _ _ _ ho) cv_L_15 ⟨by omega, by omega⟩ rfl (Nat.le_of_ble_eq_true rfl) hl.1 hq1 hRk rfl dL_read_5 htab rfl (by decide) wk_nse wz_nse (fun H locs q9 hR hS => ?_)
    refine lv_astore (lv' := [(4, .ref q9), (0, .ref x0), (1, .int x1), (2, .int x2), (3, .ref x3)]) hx hb dL_read_13 hl (by decide) rfl (fun ls hl => ?_)
    refine lv_iconst (v := 1) hx hb dL_read_15 (by decide) ?_
    exact tw_iret CX hR hS hf dL_read_16
end LWRAP_read
theorem ML_read (l : Launch) (x : Xc) (hlt : l.stackTraces = false) (N : Nat) (x0 : Nat) (x1 x2 : Int32) (x3 : Nat) (K : Ka) (M : Cm) (o : Int32 × Ka × Cm) (hf : fL_read N x0 x1 x2 x3 K M = some o) : Tw l x yL_read cL_read 5 (some .int) [(0, 10, 13, 13)] 7 118 [.ref x0, .int x1, .int x2, .ref x3] K M o :=
  tw_met RL (by decide) rfl (Nat.le_of_ble_eq_true rfl) (fun p e s m args below meth c ls CX htab hR hl => wfL_read hlt CX htab ⟨Nat.le_refl _, Nat.le_refl _⟩ ⟨Nat.le_refl _, Nat.le_refl _⟩ x0 x1 x2 x3 K M s.heap [] ls hf (KLe.rf K) hR va_S.rf hl)

def fL_device (N : Nat) (x0 : Nat) (x1 x2 : Int32) (x3 : Nat) (K : Ka) (M : Cm) : Option (Int32 × Ka × Cm) := gd (kd K x0 == 9) (tk (fT_X8_device N x0 x1 x2 K M) (fun r => gd (kd r.2.1 x3 == 23) (ck 0 (le r.2.1 x3) (some (0, r.2.1, wL r.2.2 x3 (0 : Int32).toNatClampNeg ((r.1 : Int32).toInt64))))) (fun q => some (1, kX q.1, q.2)))
theorem mfL_device {N x0 : Nat} {x1 x2 : Int32} {x3 : Nat} {K : Ka} {M : Cm} {o : Int32 × Ka × Cm} (hf : fL_device N x0 x1 x2 x3 K M = some o) : KLe K o.2.1 := by
  unfold fL_device at hf
  obtain ⟨-, hf⟩ := gd_some hf
  rcases tk_some hf with ⟨r, ho, hf⟩ | ⟨q, ho, hf⟩
  · obtain ⟨-, hf⟩ := gd_some hf
    obtain ⟨-, hf⟩ := ck_some hf
    cases hf
    exact mfT_X8_device _ _ _ _ _ ho
  · cases hf
    exact (mfT_X8_device _ _ _ _ _ ho).tr (kX_le _)
section LWRAP_device
variable {p : Program} {l : Launch} {e : Env} {R : Room} {s : State} {m : MethodId} {args : Array Value} {below : List Frame} {meth : Method} {c : Code} {x : Xc} {K0 : Ka} {o : Int32 × Ka × Cm} {N : Nat}
set_option maxRecDepth 100000 in
set_option maxHeartbeats 4000000 in
theorem wfL_device (hlt : l.stackTraces = false) (CX : CC p s m args meth c x K0 RL cL_device 5 (some .int)) (htab : c.exceptionTable.toList = tableOf [(0, 10, 13, 13)]) (hRm : 7 ≤ R.frames ∧ 118 ≤ R.locals) (hRc : kz o.2.1 - kz K0 ≤ R.cells ∧ ku o.2.1 - ku K0 ≤ R.slots) (x0 : Nat) (x1 x2 : Int32) (x3 : Nat) (K : Ka) (M : Cm) (H : Heap) (locs : List Loc) (ls : Array Slot) (hf : fL_device N x0 x1 x2 x3 K M = some o) (hL : KLe K0 K) (hR : RC x K M H) (hS : va_S (AC K0) s.heap H locs) (hl : lv_has ls 5 [(0, .ref x0), (1, .int x1), (2, .int x2), (3, .ref x3)]) :
    W p l e R s m args below meth c H locs (kz K - kz K0) (ku K - ku K0) (MQ below (aQI x K0 o) args s (kz o.2.1 - kz K0) (ku o.2.1 - ku K0) (AC K0)) (F0 m 0 ls []) := by
  obtain ⟨hx, hb, hml, hown, hts, hE, hB, hr, hlk⟩ := id CX
  unfold fL_device at hf
  obtain ⟨hk0, hf⟩ := gd_some hf
  refine lv_aload_n hx hb dL_device_0 rfl (lv_at hl 3 rfl) ?_
  refine lv_iconst (v := 0) hx hb dL_device_1 (by decide) ?_
  refine lv_aload_n hx hb dL_device_2 rfl (lv_at hl 0 rfl) ?_
  refine lv_iload_n hx hb dL_device_3 rfl (lv_at hl 1 rfl) ?_
  refine lv_iload_n hx hb dL_device_4 rfl (lv_at hl 2 rfl) ?_
  rcases tk_some hf with ⟨r, ho, hf⟩ | ⟨q, ho, hf⟩
  · have hq1 := mfT_X8_device _ _ _ _ _ ho
    obtain ⟨hk3, hf⟩ := gd_some hf
    obtain ⟨hi, hf⟩ := ck_some hf
    have hRk : kz r.2.1 - kz K0 ≤ R.cells ∧ ku r.2.1 - ku K0 ≤ R.slots := by cases hf; exact hRc
    refine ta_callIv kc_8 CX hL hR hS (As := [.int x1, .int x2]) (rest := [.int 0, .ref x3]) hk0 (MT_X8_device l x hlt N _ _ _ _ _ _ ho) cv_L_18 ⟨by omega, by omega⟩ rfl (Nat.le_of_ble_eq_true rfl) hl.1 hq1 hRk rfl dL_device_5 (fun H locs hR hS => ?_)
    refine lv_i2l (v := (r.1 : Int32).toInt64) hx hb dL_device_8 rfl ?_
    refine cr_last CX hR (hL.tr hq1) hS hk3 hi dL_device_9 (fun H locs hR hS => ?_)
    refine lv_goto (tgt := 17) hx hb dL_device_10 (by decide) ?_
    refine lv_iconst (v := 0) hx hb dL_device_17 (by decide) ?_
    exact tw_iret CX hR hS hf dL_device_18
  · have hq1 := mfT_X8_device _ _ _ _ _ ho
    have hRk : kz (kX q.1) - kz K0 ≤ R.cells ∧ ku (kX q.1) - ku K0 ≤ R.slots := by cases hf; exact hRc
    refine tx_catch kc_8 CX hL hR hS (As := [.int x1, .int x2]) (rest := [.int 0, .ref x3]) hk0 (MT_X8_device l x hlt N _ _ _ _ _ _ ho) cv_L_18 ⟨by omega, by omega⟩ rfl (Nat.le_of_ble_eq_true rfl) hl.1 hq1 hRk rfl dL_device_5 htab rfl (by decide) wk_nse wz_nse (fun H locs q9 hR hS => ?_)
    refine lv_astore (lv' := [(4, .ref q9), (0, .ref x0), (1, .int x1), (2, .int x2), (3, .ref x3)]) hx hb dL_device_13 hl (by decide) rfl (fun ls hl => ?_)
    refine lv_iconst (v := 1) hx hb dL_device_15 (by decide) ?_
    exact tw_iret CX hR hS hf dL_device_16
end LWRAP_device
theorem ML_device (l : Launch) (x : Xc) (hlt : l.stackTraces = false) (N : Nat) (x0 : Nat) (x1 x2 : Int32) (x3 : Nat) (K : Ka) (M : Cm) (o : Int32 × Ka × Cm) (hf : fL_device N x0 x1 x2 x3 K M = some o) : Tw l x yL_device cL_device 5 (some .int) [(0, 10, 13, 13)] 7 118 [.ref x0, .int x1, .int x2, .ref x3] K M o :=
  tw_met RL (by decide) rfl (Nat.le_of_ble_eq_true rfl) (fun p e s m args below meth c ls CX htab hR hl => wfL_device hlt CX htab ⟨Nat.le_refl _, Nat.le_refl _⟩ ⟨Nat.le_refl _, Nat.le_refl _⟩ x0 x1 x2 x3 K M s.heap [] ls hf (KLe.rf K) hR va_S.rf hl)
