
def EV (x : Xc) (U : State) (H : Heap) : Prop := va_K x.1.1 vwCl (dT x.1) U ∧ NW U ∧ vk_S strN strL strB x.2.2.1 x.2.2.2.1 (lo0 x) U H ∧ (∀ q ∈ strR, vk_R q.1 q.2.1 (strT.getD q.2.2 "") (x.2.2.1 q.2.2) U) ∧ vx_Zq Bundle.tN "UNASSIGNED_STACK" Bundle.steD (lo0 x) U H ∧ vx_Zq Bundle.tN "SUPPRESSED_SENTINEL" Bundle.listD (lo0 x) U H ∧ va_Z "java/lang/String" "COMPACT_STRINGS" "Z" (.int 1) (lo0 x) U H ∧ va_Z "jdk/internal/util/Preconditions" "SIOOBE_FORMATTER" "Ljava/util/function/BiFunction;" (va_rf x.2.2.2.2) (lo0 x) U H ∧ va_AO "StationStarter$Frame" U ∧ va_AO "StationStarter$Unit" U
theorem EV.moved {x : Xc} {s U : State} {H : Heap} (hW : s.WarmedH U.vm) (h : EV x s H) : EV x U H :=
  ⟨va_K.moved hW.alike h.1, NW.warm hW h.2.1, vk_S.moved hW.alike h.2.2.1, fun q hq => vk_R.warm hW (h.2.2.2.1 q hq), vx_Zq.moved hW.alike h.2.2.2.2.1, vx_Zq.moved hW.alike h.2.2.2.2.2.1, va_Z.moved hW.alike h.2.2.2.2.2.2.1, va_Z.moved hW.alike h.2.2.2.2.2.2.2.1, va_AO.moved hW.alike h.2.2.2.2.2.2.2.2.1, va_AO.moved hW.alike h.2.2.2.2.2.2.2.2.2⟩
theorem EV.kept {x : Xc} {U : State} {H H1 : Heap} (hq : ∀ a : Nat, a < H.size → ¬ lo0 x a → H1[a]? = H[a]?) (h : EV x U H) : EV x U H1 :=
  ⟨h.1, h.2.1, vk_S.kept h.2.2.1 hq, h.2.2.2.1, vx_Zq.kept h.2.2.2.2.1 hq, vx_Zq.kept h.2.2.2.2.2.1 hq, va_Z.kept h.2.2.2.2.2.2.1 hq, va_Z.kept h.2.2.2.2.2.2.2.1 hq, h.2.2.2.2.2.2.2.2⟩
/-- what a walk of one of the component's methods stands on -/
def CC (p : Program) (s : State) (m : MethodId) (args : Array Value) (meth : Method) (c : Code) (x : Xc) (K0 : Ka) (own : String) (cc : ByteArray) (nL : Nat) (rt : Option FieldType) : Prop :=
  p.tables.exec = Jvm.exec ∧ c.code = cc ∧ c.maxLocals = nL ∧ s.vm.findClass own = some m.cls ∧ (∀ w ∈ lwg, w.before args s = true) ∧ EV x s s.heap ∧ (∀ q, AC K0 q → lo0 x q) ∧ meth.sig.returnType = rt ∧ meth.locks = false
def KC (c : Nat) (C : String) (T : u_T) (ty : Nat → FieldType) : Prop := c < 10 ∧ vwCl[c]? = some (C, T, cN c) ∧ (∀ w ∈ u_ws C T (cN c), w ∈ lwg) ∧ (∀ k, k < cN c → parseFieldDescriptor (T k).2.2.1 = some (ty k)) ∧ (∀ a, a < cN c → ∀ b, b < cN c → a ≠ b → (T a).2.1 ≠ (T b).2.1)
theorem kc_0 : KC 0 RX0 TX0 tyX0 := ⟨by decide, rfl, i_X0, tyX0_ok, nmX0⟩
theorem kc_1 : KC 1 RX1 TX1 tyX1 := ⟨by decide, rfl, i_X1, tyX1_ok, nmX1⟩
theorem kc_2 : KC 2 RX2 TX2 tyX2 := ⟨by decide, rfl, i_X2, tyX2_ok, nmX2⟩
theorem kc_3 : KC 3 RX3 TX3 tyX3 := ⟨by decide, rfl, i_X3, tyX3_ok, nmX3⟩
theorem kc_4 : KC 4 RX4 TX4 tyX4 := ⟨by decide, rfl, i_X4, tyX4_ok, nmX4⟩
theorem kc_5 : KC 5 RX5 TX5 tyX5 := ⟨by decide, rfl, i_X5, tyX5_ok, nmX5⟩
theorem kc_6 : KC 6 RX6 TX6 tyX6 := ⟨by decide, rfl, i_X6, tyX6_ok, nmX6⟩
theorem kc_7 : KC 7 RX7 TX7 tyX7 := ⟨by decide, rfl, i_X7, tyX7_ok, nmX7⟩
theorem kc_8 : KC 8 RX8 TX8 tyX8 := ⟨by decide, rfl, i_X8, tyX8_ok, nmX8⟩
theorem kc_9 : KC 9 RX9 TX9 tyX9 := ⟨by decide, rfl, i_X9, tyX9_ok, nmX9⟩
def FA (own : String) (idx : Nat) (C : String) (T : u_T) (c k : Nat) : Prop := k < cN c ∧ (T k).1 = C ∧ (Cond.fieldLink own idx C (T k).2.1 (T k).2.2.1 ∈ lwg ∨ ∃ host, Cond.fieldLinkNest own idx C (T k).2.1 (T k).2.2.1 host ∈ nws)
theorem fits_rf {ty : FieldType} (h : (∃ n, ty = .object n) ∨ ∃ t, ty = .array t) (v : Option Nat) : narrow ty (va_rf v) = va_rf v ∧ fits ty (va_rf v) = true := by
  rcases h with ⟨n, rfl⟩ | ⟨t, rfl⟩ <;> cases v <;> exact ⟨rfl, rfl⟩
/-- a reference that isn't null, or none -/
def nn {ρ : Type} (v : Option Nat) (k : Nat → Option ρ) : Option ρ := match v with
  | some a => k a
  | none => none
theorem nn_some {ρ : Type} {v : Option Nat} {k : Nat → Option ρ} {o : ρ} (h : nn v k = some o) : ∃ a, v = some a ∧ k a = some o := by
  cases v with
  | none => cases h
  | some a => exact ⟨a, rfl, h⟩
section CROWS
variable {p : Program} {l : Launch} {e : Env} {R : Room} {s : State} {m : MethodId} {args : Array Value} {below : List Frame} {meth : Method} {c0 : Code} {H : Heap} {locs : List Loc} {cells slots : Nat} {Q : State → Prop}
variable {cc : ByteArray} {nL : Nat} {rt : Option FieldType} {x : Xc} {K0 K : Ka} {M : Cm} {own C : String} {T : u_T} {ty : Nat → FieldType} {c : Nat} {pc : Nat} {ls : Array Slot} {rest : List Value}
theorem rf_0 {v : Option Nat} {a : Nat} (h : v = some a) (k : W p l e R s m args below meth c0 H locs cells slots Q (F0 m pc ls (.ref a :: rest))) : W p l e R s m args below meth c0 H locs cells slots Q (F0 m pc ls (va_rf v :: rest)) := by subst h; exact k
theorem rf_1 {v : Option Nat} {a : Nat} {y1 : Value} (h : v = some a) (k : W p l e R s m args below meth c0 H locs cells slots Q (F0 m pc ls (y1 :: .ref a :: rest))) : W p l e R s m args below meth c0 H locs cells slots Q (F0 m pc ls (y1 :: va_rf v :: rest)) := by subst h; exact k
theorem rf_2 {v : Option Nat} {a : Nat} {y1 y2 : Value} (h : v = some a) (k : W p l e R s m args below meth c0 H locs cells slots Q (F0 m pc ls (y1 :: y2 :: .ref a :: rest))) : W p l e R s m args below meth c0 H locs cells slots Q (F0 m pc ls (y1 :: y2 :: va_rf v :: rest)) := by subst h; exact k
theorem rf_3 {v : Option Nat} {a : Nat} {y1 y2 y3 : Value} (h : v = some a) (k : W p l e R s m args below meth c0 H locs cells slots Q (F0 m pc ls (y1 :: y2 :: y3 :: .ref a :: rest))) : W p l e R s m args below meth c0 H locs cells slots Q (F0 m pc ls (y1 :: y2 :: y3 :: va_rf v :: rest)) := by subst h; exact k
theorem rf_4 {v : Option Nat} {a : Nat} {y1 y2 y3 y4 : Value} (h : v = some a) (k : W p l e R s m args below meth c0 H locs cells slots Q (F0 m pc ls (y1 :: y2 :: y3 :: y4 :: .ref a :: rest))) : W p l e R s m args below meth c0 H locs cells slots Q (F0 m pc ls (y1 :: y2 :: y3 :: y4 :: va_rf v :: rest)) := by subst h; exact k
theorem cr_get (hC : KC c C T ty) (CX : CC p s m args meth c0 x K0 own cc nL rt) (hR : RC x K M H) {idx k : Nat} (hf : FA own idx C T c k) {a : Nat} (hk : kd K a = c + 1) {v : Value} (hv : fvC c M a k = v) (hdg : decode cc pc = .ok (.getfield idx, 3))
    (kk : W p l e R s m args below meth c0 H locs cells slots Q (F0 m (pc + 3) ls (v :: rest))) : W p l e R s m args below meth c0 H locs cells slots Q (F0 m pc ls (.ref a :: rest)) := by
  obtain ⟨hx, hb, hml, hown, hts, hE, hB, hr, hlk⟩ := CX
  obtain ⟨h9, hc, hin, hty, hnm⟩ := hC
  obtain ⟨hkN, hd, hl⟩ := hf
  have hv2 : (fldC c M a)[k]? = some v := by rw [fldC_get c M a hkN, hv]
  have hP := hR.one (a := a) (by omega) (cel_obj hk h9)
  rcases hl with hl | ⟨host, hl⟩
  · exact va_get (D := x.1.1) (cl := vwCl) (ci := c) (v := v) (C := C) (T := T) (N := cN c) hx hb hts hin hown hE.1 hP 0 rfl hc k hkN (hts _ hl) (fun y hy => by rw [hd] at hy; exact hy) hv2 hdg kk
  · exact va_getN (D := x.1.1) (cl := vwCl) (ci := c) (v := v) (C := C) (T := T) (N := cN c) hx hb hts hin hown hE.1 hP 0 rfl hc k hkN (va_Nw.use rfl (hE.2.1 _ hl)) (fun y hy => by rw [hd] at hy; exact hy) hv2 hdg kk
theorem cr_getI (hC : KC c C T ty) (CX : CC p s m args meth c0 x K0 own cc nL rt) (hR : RC x K M H) {idx k : Nat} (hf : FA own idx C T c k) (h0 : cRf c k = false) {a : Nat} (hk : (kd K a == c + 1) = true) (hdg : decode cc pc = .ok (.getfield idx, 3))
    (kk : W p l e R s m args below meth c0 H locs cells slots Q (F0 m (pc + 3) ls (.int (cI M a k) :: rest))) : W p l e R s m args below meth c0 H locs cells slots Q (F0 m pc ls (.ref a :: rest)) :=
  cr_get hC CX hR hf (by simpa using hk) (by simp [fvC, h0]) hdg kk
theorem cr_getR (hC : KC c C T ty) (CX : CC p s m args meth c0 x K0 own cc nL rt) (hR : RC x K M H) {idx k : Nat} (hf : FA own idx C T c k) (h0 : cRf c k = true) {a : Nat} (hk : (kd K a == c + 1) = true) (hdg : decode cc pc = .ok (.getfield idx, 3))
    (kk : W p l e R s m args below meth c0 H locs cells slots Q (F0 m (pc + 3) ls (va_rf (cR M a k) :: rest))) : W p l e R s m args below meth c0 H locs cells slots Q (F0 m pc ls (.ref a :: rest)) :=
  cr_get hC CX hR hf (by simpa using hk) (by simp [fvC, h0]) hdg kk
theorem RC.AC0 (hR : RC x K M H) (hL : KLe K0 K) {a : Nat} (h : kd K a ≠ 0) : AC K0 a := hL.2.2 a h
theorem cr_put (hC : KC c C T ty) (CX : CC p s m args meth c0 x K0 own cc nL rt) (hR : RC x K M H) (hL : KLe K0 K) (hS : va_S (AC K0) s.heap H locs) {idx k : Nat} (hf : FA own idx C T c k) (hfin : (T k).2.2.2 = false) {a : Nat} (hk : kd K a = c + 1) {v : Value} {M' : Cm} (hn : narrow (ty k) v = v) (hv : fits (ty k) v = true) (hMv : fvC c M' a k = v) (hMo : ∀ j, j ≠ k → fvC c M' a j = fvC c M a j) (hMb : ∀ b, b ≠ a → cel x.1 K M' b = cel x.1 K M b) (hdg : decode cc pc = .ok (.putfield idx, 3))
    (kk : ∀ (H1 : Heap) (locs1 : List Loc), RC x K M' H1 → va_S (AC K0) s.heap H1 locs1 → W p l e R s m args below meth c0 H1 locs1 cells slots Q (F0 m (pc + 3) ls rest)) : W p l e R s m args below meth c0 H locs cells slots Q (F0 m pc ls (v :: .ref a :: rest)) := by
  obtain ⟨hx, hb, hml, hown, hts, hE, hB, hr, hlk⟩ := CX
  obtain ⟨h9, hc, hin, hty, hnm⟩ := hC
  obtain ⟨hkN, hd, hl⟩ := hf
  have hk0 : kd K a ≠ 0 := by omega
  have h0 := (hR.2.2 a hk0).2
  rw [cel_obj hk h9] at h0
  have fin : ∀ (H1 : Heap) (j : Nat), va_at x.1.1 vwCl (a, .inr (c, (fldC c M a).set k v)) H1 → H1.size = H.size → (∀ q : Nat, q ≠ a → H1[q]? = H[q]?) → W p l e R s m args below meth c0 H1 (locs ++ [⟨a, j⟩]) cells slots Q (F0 m (pc + 3) ls rest) := by
    intro H1 j e1 e2 e3
    rw [fldC_set c M M' a hMv hMo] at e1
    refine kk H1 _ (hR.put hk0 e2 e3 hMb ?_) (hS.put e2 e3 (hL.2.2 a hk0))
    rw [cel_obj hk h9]
    exact e1
  rcases hl with hl | ⟨host, hl⟩
  · exact raw_put (D := x.1.1) (cl := vwCl) (ci := c) (v := v) (ty := ty k) (C := C) (T := T) (N := cN c) hx hb hts hin ty hty hnm hown hE.1 h0 hc k hkN (hts _ hl) (fun y hy => by rw [hd] at hy; exact hy) hfin (hty k hkN) hn hv (by rw [fldC_len]; exact hkN) hdg fin
  · exact raw_putN (D := x.1.1) (cl := vwCl) (ci := c) (v := v) (ty := ty k) (C := C) (T := T) (N := cN c) hx hb hts hin ty hty hnm hown hE.1 h0 hc k hkN (va_Nw.use rfl (hE.2.1 _ hl)) (fun y hy => by rw [hd] at hy; exact hy) hfin (hty k hkN) hn hv (by rw [fldC_len]; exact hkN) hdg fin
theorem fv_wI {k : Nat} (h0 : cRf c k = false) (M : Cm) (a : Nat) (v : Int32) : fvC c (wI M a k v) a k = .int v := by simp [fvC, h0, cI_wI, upd]
theorem fv_wIo (M : Cm) (a k : Nat) (v : Int32) : ∀ j, j ≠ k → fvC c (wI M a k v) a j = fvC c M a j := by intro j hj; simp only [fvC, cI_wI, upd, if_neg hj]; rfl
theorem fv_wR {k : Nat} (h0 : cRf c k = true) (M : Cm) (a : Nat) (v : Option Nat) : fvC c (wR M a k v) a k = va_rf v := by simp [fvC, h0, cR_wR, va_up]
theorem fv_wRo (M : Cm) (a k : Nat) (v : Option Nat) : ∀ j, j ≠ k → fvC c (wR M a k v) a j = fvC c M a j := by intro j hj; simp only [fvC, cR_wR, va_up, if_neg hj]; rfl
theorem cel_wI (d : Dd) (K : Ka) (M : Cm) (a k : Nat) (v : Int32) : ∀ b, b ≠ a → cel d K (wI M a k v) b = cel d K M b := fun b h => cel_same (cI_wI_ne M k v h) rfl rfl
theorem cel_wL (d : Dd) (K : Ka) (M : Cm) (a k : Nat) (v : Int64) : ∀ b, b ≠ a → cel d K (wL M a k v) b = cel d K M b := fun b h => cel_same rfl (cL_wL_ne M k v h) rfl
theorem cel_wR (d : Dd) (K : Ka) (M : Cm) (a k : Nat) (v : Option Nat) : ∀ b, b ≠ a → cel d K (wR M a k v) b = cel d K M b := fun b h => cel_same rfl rfl (cR_wR_ne M k v h)
theorem cr_putI (hC : KC c C T ty) (CX : CC p s m args meth c0 x K0 own cc nL rt) (hR : RC x K M H) (hL : KLe K0 K) (hS : va_S (AC K0) s.heap H locs) {idx k : Nat} (hf : FA own idx C T c k) (h0 : cRf c k = false ∧ (T k).2.2.2 = false ∧ ty k = .int) {a : Nat} (hk : (kd K a == c + 1) = true) {v : Int32} (hdg : decode cc pc = .ok (.putfield idx, 3))
    (kk : ∀ (H1 : Heap) (locs1 : List Loc), RC x K (wI M a k v) H1 → va_S (AC K0) s.heap H1 locs1 → W p l e R s m args below meth c0 H1 locs1 cells slots Q (F0 m (pc + 3) ls rest)) : W p l e R s m args below meth c0 H locs cells slots Q (F0 m pc ls (.int v :: .ref a :: rest)) :=
  cr_put hC CX hR hL hS hf h0.2.1 (by simpa using hk) (by rw [h0.2.2]; rfl) (by rw [h0.2.2]; rfl) (fv_wI h0.1 M a v) (fv_wIo M a k v) (cel_wI _ K M a k v) hdg kk
theorem cr_putZ (hC : KC c C T ty) (CX : CC p s m args meth c0 x K0 own cc nL rt) (hR : RC x K M H) (hL : KLe K0 K) (hS : va_S (AC K0) s.heap H locs) {idx k : Nat} (hf : FA own idx C T c k) (h0 : cRf c k = false ∧ (T k).2.2.2 = false ∧ ty k = .boolean) {a : Nat} (hk : (kd K a == c + 1) = true) {v : Int32} (hv : is01 v = true) (hdg : decode cc pc = .ok (.putfield idx, 3))
    (kk : ∀ (H1 : Heap) (locs1 : List Loc), RC x K (wI M a k v) H1 → va_S (AC K0) s.heap H1 locs1 → W p l e R s m args below meth c0 H1 locs1 cells slots Q (F0 m (pc + 3) ls rest)) : W p l e R s m args below meth c0 H locs cells slots Q (F0 m pc ls (.int v :: .ref a :: rest)) :=
  cr_put hC CX hR hL hS hf h0.2.1 (by simpa using hk) (by rw [h0.2.2]; exact nar01 hv) (by rw [h0.2.2]; exact fit01 hv) (fv_wI h0.1 M a v) (fv_wIo M a k v) (cel_wI _ K M a k v) hdg kk
theorem cr_putR (hC : KC c C T ty) (CX : CC p s m args meth c0 x K0 own cc nL rt) (hR : RC x K M H) (hL : KLe K0 K) (hS : va_S (AC K0) s.heap H locs) {idx k : Nat} (hf : FA own idx C T c k) (h0 : cRf c k = true ∧ (T k).2.2.2 = false ∧ ((∃ n, ty k = .object n) ∨ ∃ t, ty k = .array t)) {a : Nat} (hk : (kd K a == c + 1) = true) {v : Option Nat} (hdg : decode cc pc = .ok (.putfield idx, 3))
    (kk : ∀ (H1 : Heap) (locs1 : List Loc), RC x K (wR M a k v) H1 → va_S (AC K0) s.heap H1 locs1 → W p l e R s m args below meth c0 H1 locs1 cells slots Q (F0 m (pc + 3) ls rest)) : W p l e R s m args below meth c0 H locs cells slots Q (F0 m pc ls (va_rf v :: .ref a :: rest)) :=
  cr_put hC CX hR hL hS hf h0.2.1 (by simpa using hk) (fits_rf h0.2.2 v).1 (fits_rf h0.2.2 v).2 (fv_wR h0.1 M a v) (fv_wRo M a k v) (cel_wR _ K M a k v) hdg kk

theorem cr_iald (CX : CC p s m args meth c0 x K0 own cc nL rt) (hR : RC x K M H) {a : Nat} (hk : (kd K a == 22) = true) {i : Int32} (hin : vp_in i (le K a)) (hdg : decode cc pc = .ok (.iaload, 1))
    (kk : W p l e R s m args below meth c0 H locs cells slots Q (F0 m (pc + 1) ls (.int (cI M a i.toNatClampNeg) :: rest))) : W p l e R s m args below meth c0 H locs cells slots Q (F0 m pc ls (.int i :: .ref a :: rest)) := by
  obtain ⟨hx, hb, hml, hown, hts, hE, hB, hr, hlk⟩ := CX
  have hk : kd K a = 22 := by simpa using hk
  exact va_iald hx hb hE.1 (hR.one (a := a) (by omega) (cel_i hk)) 0 1 rfl rfl hin hdg kk

theorem cr_zald (CX : CC p s m args meth c0 x K0 own cc nL rt) (hR : RC x K M H) {a : Nat} (hk : (kd K a == 24) = true) {i : Int32} (hin : vp_in i (le K a)) (hdg : decode cc pc = .ok (.baload, 1))
    (kk : W p l e R s m args below meth c0 H locs cells slots Q (F0 m (pc + 1) ls (.int (cI M a i.toNatClampNeg) :: rest))) : W p l e R s m args below meth c0 H locs cells slots Q (F0 m pc ls (.int i :: .ref a :: rest)) := by
  obtain ⟨hx, hb, hml, hown, hts, hE, hB, hr, hlk⟩ := CX
  have hk : kd K a = 24 := by simpa using hk
  exact va_zald hx hb hE.1 (hR.one (a := a) (by omega) (cel_z hk)) 0 3 rfl rfl hin hdg kk

theorem cr_cald (CX : CC p s m args meth c0 x K0 own cc nL rt) (hR : RC x K M H) {a : Nat} (hk : (kd K a == 21) = true) {i : Int32} (hin : vp_in i (le K a)) (hdg : decode cc pc = .ok (.caload, 1))
    (kk : W p l e R s m args below meth c0 H locs cells slots Q (F0 m (pc + 1) ls (.int (cI M a i.toNatClampNeg) :: rest))) : W p l e R s m args below meth c0 H locs cells slots Q (F0 m pc ls (.int i :: .ref a :: rest)) := by
  obtain ⟨hx, hb, hml, hown, hts, hE, hB, hr, hlk⟩ := CX
  have hk : kd K a = 21 := by simpa using hk
  exact va_cald hx hb hE.1 (hR.one (a := a) (by omega) (cel_c hk)) 0 0 rfl rfl hin hdg kk

theorem cr_lald (CX : CC p s m args meth c0 x K0 own cc nL rt) (hR : RC x K M H) {a : Nat} (hk : (kd K a == 23) = true) {i : Int32} (hin : vp_in i (le K a)) (hdg : decode cc pc = .ok (.laload, 1))
    (kk : W p l e R s m args below meth c0 H locs cells slots Q (F0 m (pc + 1) ls (.long (cL M a i.toNatClampNeg) :: rest))) : W p l e R s m args below meth c0 H locs cells slots Q (F0 m pc ls (.int i :: .ref a :: rest)) := by
  obtain ⟨hx, hb, hml, hown, hts, hE, hB, hr, hlk⟩ := CX
  have hk : kd K a = 23 := by simpa using hk
  exact va_lald hx hb hE.1 (hR.one (a := a) (by omega) (cel_l hk)) 0 2 rfl rfl hin hdg kk

theorem cr_fald (CX : CC p s m args meth c0 x K0 own cc nL rt) (hR : RC x K M H) {a : Nat} (hk : (kd K a == 25) = true) {i : Int32} (hin : vp_in i (le K a)) (hdg : decode cc pc = .ok (.aaload, 1))
    (kk : W p l e R s m args below meth c0 H locs cells slots Q (F0 m (pc + 1) ls (va_rf (cR M a i.toNatClampNeg) :: rest))) : W p l e R s m args below meth c0 H locs cells slots Q (F0 m pc ls (.int i :: .ref a :: rest)) := by
  obtain ⟨hx, hb, hml, hown, hts, hE, hB, hr, hlk⟩ := CX
  have hk : kd K a = 25 := by simpa using hk
  exact va_aldq hx hb hE.1 (hR.one (a := a) (by omega) (cel_f hk)) 0 4 rfl rfl hin hdg kk

theorem cr_uald (CX : CC p s m args meth c0 x K0 own cc nL rt) (hR : RC x K M H) {a : Nat} (hk : (kd K a == 26) = true) {i : Int32} (hin : vp_in i (le K a)) (hdg : decode cc pc = .ok (.aaload, 1))
    (kk : W p l e R s m args below meth c0 H locs cells slots Q (F0 m (pc + 1) ls (va_rf (cR M a i.toNatClampNeg) :: rest))) : W p l e R s m args below meth c0 H locs cells slots Q (F0 m pc ls (.int i :: .ref a :: rest)) := by
  obtain ⟨hx, hb, hml, hown, hts, hE, hB, hr, hlk⟩ := CX
  have hk : kd K a = 26 := by simpa using hk
  exact va_aldq hx hb hE.1 (hR.one (a := a) (by omega) (cel_u hk)) 0 5 rfl rfl hin hdg kk

theorem cr_iast (CX : CC p s m args meth c0 x K0 own cc nL rt) (hR : RC x K M H) (hL : KLe K0 K) (hS : va_S (AC K0) s.heap H locs) {a : Nat} (hk : (kd K a == 22) = true) {i : Int32} {x1 : Int32} (hin : vp_in i (le K a)) (hdg : decode cc pc = .ok (.iastore, 1))
    (kk : ∀ (H1 : Heap) (locs1 : List Loc), RC x K (wI M a i.toNatClampNeg x1) H1 → va_S (AC K0) s.heap H1 locs1 → W p l e R s m args below meth c0 H1 locs1 cells slots Q (F0 m (pc + 1) ls rest)) : W p l e R s m args below meth c0 H locs cells slots Q (F0 m pc ls (.int x1 :: .int i :: .ref a :: rest)) := by
  obtain ⟨hx, hb, hml, hown, hts, hE, hB, hr, hlk⟩ := CX
  have hk : kd K a = 22 := by simpa using hk
  have hk0 : kd K a ≠ 0 := by omega
  have h0 := (hR.2.2 a hk0).2
  rw [cel_i hk] at h0
  refine raw_iast hx hb h0 (hE.1.2 1 _ rfl).1 hin hdg (fun H1 j e1 e2 e3 => ?_)
  refine kk H1 _ (hR.put hk0 e2 e3 (cel_wI _ K M a _ _) ?_) (hS.put e2 e3 (hL.2.2 a hk0))
  rw [cel_i hk, cI_wI]
  exact e1

theorem cr_zast (CX : CC p s m args meth c0 x K0 own cc nL rt) (hR : RC x K M H) (hL : KLe K0 K) (hS : va_S (AC K0) s.heap H locs) {a : Nat} (hk : (kd K a == 24) = true) {i : Int32} {x1 : Int32} (hin : vp_in i (le K a)) (hdg : decode cc pc = .ok (.bastore, 1))
    (kk : ∀ (H1 : Heap) (locs1 : List Loc), RC x K (wI M a i.toNatClampNeg (vp_nar .boolean x1)) H1 → va_S (AC K0) s.heap H1 locs1 → W p l e R s m args below meth c0 H1 locs1 cells slots Q (F0 m (pc + 1) ls rest)) : W p l e R s m args below meth c0 H locs cells slots Q (F0 m pc ls (.int x1 :: .int i :: .ref a :: rest)) := by
  obtain ⟨hx, hb, hml, hown, hts, hE, hB, hr, hlk⟩ := CX
  have hk : kd K a = 24 := by simpa using hk
  have hk0 : kd K a ≠ 0 := by omega
  have h0 := (hR.2.2 a hk0).2
  rw [cel_z hk] at h0
  refine raw_zast hx hb h0 (hE.1.2 3 _ rfl).1 hin hdg (fun H1 j e1 e2 e3 => ?_)
  refine kk H1 _ (hR.put hk0 e2 e3 (cel_wI _ K M a _ _) ?_) (hS.put e2 e3 (hL.2.2 a hk0))
  rw [cel_z hk, cI_wI]
  exact e1

theorem cr_cast (CX : CC p s m args meth c0 x K0 own cc nL rt) (hR : RC x K M H) (hL : KLe K0 K) (hS : va_S (AC K0) s.heap H locs) {a : Nat} (hk : (kd K a == 21) = true) {i : Int32} {x1 : Int32} (hin : vp_in i (le K a)) (hdg : decode cc pc = .ok (.castore, 1))
    (kk : ∀ (H1 : Heap) (locs1 : List Loc), RC x K (wI M a i.toNatClampNeg (vp_nar .char x1)) H1 → va_S (AC K0) s.heap H1 locs1 → W p l e R s m args below meth c0 H1 locs1 cells slots Q (F0 m (pc + 1) ls rest)) : W p l e R s m args below meth c0 H locs cells slots Q (F0 m pc ls (.int x1 :: .int i :: .ref a :: rest)) := by
  obtain ⟨hx, hb, hml, hown, hts, hE, hB, hr, hlk⟩ := CX
  have hk : kd K a = 21 := by simpa using hk
  have hk0 : kd K a ≠ 0 := by omega
  have h0 := (hR.2.2 a hk0).2
  rw [cel_c hk] at h0
  refine raw_cast hx hb h0 (hE.1.2 0 _ rfl).1 hin hdg (fun H1 j e1 e2 e3 => ?_)
  refine kk H1 _ (hR.put hk0 e2 e3 (cel_wI _ K M a _ _) ?_) (hS.put e2 e3 (hL.2.2 a hk0))
  rw [cel_c hk, cI_wI]
  exact e1

theorem cr_last (CX : CC p s m args meth c0 x K0 own cc nL rt) (hR : RC x K M H) (hL : KLe K0 K) (hS : va_S (AC K0) s.heap H locs) {a : Nat} (hk : (kd K a == 23) = true) {i : Int32} {x1 : Int64} (hin : vp_in i (le K a)) (hdg : decode cc pc = .ok (.lastore, 1))
    (kk : ∀ (H1 : Heap) (locs1 : List Loc), RC x K (wL M a i.toNatClampNeg x1) H1 → va_S (AC K0) s.heap H1 locs1 → W p l e R s m args below meth c0 H1 locs1 cells slots Q (F0 m (pc + 1) ls rest)) : W p l e R s m args below meth c0 H locs cells slots Q (F0 m pc ls (.long x1 :: .int i :: .ref a :: rest)) := by
  obtain ⟨hx, hb, hml, hown, hts, hE, hB, hr, hlk⟩ := CX
  have hk : kd K a = 23 := by simpa using hk
  have hk0 : kd K a ≠ 0 := by omega
  have h0 := (hR.2.2 a hk0).2
  rw [cel_l hk] at h0
  refine raw_last hx hb h0 (hE.1.2 2 _ rfl).1 hin hdg (fun H1 j e1 e2 e3 => ?_)
  refine kk H1 _ (hR.put hk0 e2 e3 (cel_wL _ K M a _ _) ?_) (hS.put e2 e3 (hL.2.2 a hk0))
  rw [cel_l hk, cL_wL]
  exact e1

theorem cr_ilen (CX : CC p s m args meth c0 x K0 own cc nL rt) (hR : RC x K M H) {a : Nat} (hk : (kd K a == 22) = true) (hdg : decode cc pc = .ok (.arraylength, 1))
    (kk : W p l e R s m args below meth c0 H locs cells slots Q (F0 m (pc + 1) ls (.int (nI (le K a)) :: rest))) : W p l e R s m args below meth c0 H locs cells slots Q (F0 m pc ls (.ref a :: rest)) := by
  obtain ⟨hx, hb, hml, hown, hts, hE, hB, hr, hlk⟩ := CX
  have hk : kd K a = 22 := by simpa using hk
  exact va_alen hx hb hE.1 (hR.one (a := a) (by omega) (cel_i hk)) 0 1 rfl rfl rfl hdg kk

theorem cr_llen (CX : CC p s m args meth c0 x K0 own cc nL rt) (hR : RC x K M H) {a : Nat} (hk : (kd K a == 23) = true) (hdg : decode cc pc = .ok (.arraylength, 1))
    (kk : W p l e R s m args below meth c0 H locs cells slots Q (F0 m (pc + 1) ls (.int (nI (le K a)) :: rest))) : W p l e R s m args below meth c0 H locs cells slots Q (F0 m pc ls (.ref a :: rest)) := by
  obtain ⟨hx, hb, hml, hown, hts, hE, hB, hr, hlk⟩ := CX
  have hk : kd K a = 23 := by simpa using hk
  exact va_alen hx hb hE.1 (hR.one (a := a) (by omega) (cel_l hk)) 0 2 rfl rfl rfl hdg kk

theorem cr_clen (CX : CC p s m args meth c0 x K0 own cc nL rt) (hR : RC x K M H) {a : Nat} (hk : (kd K a == 21) = true) (hdg : decode cc pc = .ok (.arraylength, 1))
    (kk : W p l e R s m args below meth c0 H locs cells slots Q (F0 m (pc + 1) ls (.int (nI (le K a)) :: rest))) : W p l e R s m args below meth c0 H locs cells slots Q (F0 m pc ls (.ref a :: rest)) := by
  obtain ⟨hx, hb, hml, hown, hts, hE, hB, hr, hlk⟩ := CX
  have hk : kd K a = 21 := by simpa using hk
  exact va_alen hx hb hE.1 (hR.one (a := a) (by omega) (cel_c hk)) 0 0 rfl rfl rfl hdg kk

theorem cr_flen (CX : CC p s m args meth c0 x K0 own cc nL rt) (hR : RC x K M H) {a : Nat} (hk : (kd K a == 25) = true) (hdg : decode cc pc = .ok (.arraylength, 1))
    (kk : W p l e R s m args below meth c0 H locs cells slots Q (F0 m (pc + 1) ls (.int (nI (le K a)) :: rest))) : W p l e R s m args below meth c0 H locs cells slots Q (F0 m pc ls (.ref a :: rest)) := by
  obtain ⟨hx, hb, hml, hown, hts, hE, hB, hr, hlk⟩ := CX
  have hk : kd K a = 25 := by simpa using hk
  exact va_alen hx hb hE.1 (hR.one (a := a) (by omega) (cel_f hk)) 0 4 rfl rfl rfl hdg kk

theorem cr_ulen (CX : CC p s m args meth c0 x K0 own cc nL rt) (hR : RC x K M H) {a : Nat} (hk : (kd K a == 26) = true) (hdg : decode cc pc = .ok (.arraylength, 1))
    (kk : W p l e R s m args below meth c0 H locs cells slots Q (F0 m (pc + 1) ls (.int (nI (le K a)) :: rest))) : W p l e R s m args below meth c0 H locs cells slots Q (F0 m pc ls (.ref a :: rest)) := by
  obtain ⟨hx, hb, hml, hown, hts, hE, hB, hr, hlk⟩ := CX
  have hk : kd K a = 26 := by simpa using hk
  exact va_alen hx hb hE.1 (hR.one (a := a) (by omega) (cel_u hk)) 0 5 rfl rfl rfl hdg kk
end CROWS
