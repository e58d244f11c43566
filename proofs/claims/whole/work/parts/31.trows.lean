
theorem wo_i : Cond.instanceMethod objectInit ∈ lwg := lwg_in 150 (by decide +kernel) (by decide +kernel)
theorem wo_c : Cond.code objectInit ⟨#[0xb1]⟩ 1 none ∈ lwg := lwg_in 151 (by decide +kernel) (by decide +kernel)

section TROWS2
variable {p : Program} {l : Launch} {e : Env} {R : Room} {s : State} {m : MethodId} {args : Array Value} {below : List Frame} {meth : Method} {c0 : Code} {H : Heap} {locs : List Loc} {cells slots : Nat} {Q : State → Prop}
variable {cc : ByteArray} {nL : Nat} {rt : Option FieldType} {x : Xc} {K0 K : Ka} {M : Cm} {own nm C : String} {T : u_T} {ty : Nat → FieldType} {c : Nat} {pc : Nat} {ls : Array Slot} {rest : List Value} {exn : String}
theorem tr_objInit (CX : CC p s m args meth c0 x K0 own cc nL rt) {idx a : Nat} (hw : Cond.methodLink own idx objectInit ∈ lwg) (hsz : ls.size = nL) (hfr : 1 ≤ R.frames) (hlo : 20 ≤ R.locals) (hcat : (rest.map fun v => v.category).sum ≤ 8) (hdg : decode cc pc = .ok (.invokespecial idx, 3))
    (kk : W p l e R s m args below meth c0 H locs cells slots Q (F0 m (pc + 3) ls rest)) : W p l e R s m args below meth c0 H locs cells slots Q (F0 m pc ls (.ref a :: rest)) := by
  obtain ⟨hx, hb, hml, hown, hts, hE, hB, hr, hlk⟩ := CX
  refine W.objInit hx hb hown (hts _ hw) (hts _ wo_i) (hts _ wo_c) rfl (hsz.trans hml.symm) rfl hdg hfr (by show 2 * 0 + _ + 12 ≤ _; omega) ?_
  exact kk
theorem tr_putF (hC : KC c C T ty) (CX : CC p s m args meth c0 x K0 own cc nL rt) (hnm0 : meth.name = "<init>") (hR : RC x K M H) (hL : KLe K0 K) (hS : va_S (AC K0) s.heap H locs) {idx k : Nat} (hf : k < cN c ∧ (T k).1 = C ∧ C = own ∧ Cond.fieldLink own idx C (T k).2.1 (T k).2.2.1 ∈ lwg) (hfin : (T k).2.2.2 = true) {a : Nat} (hk : kd K a = c + 1) {v : Value} {M' : Cm} (hn : narrow (ty k) v = v) (hv : fits (ty k) v = true) (hMv : fvC c M' a k = v) (hMo : ∀ j, j ≠ k → fvC c M' a j = fvC c M a j) (hMb : ∀ b, b ≠ a → cel x.1 K M' b = cel x.1 K M b) (hdg : decode cc pc = .ok (.putfield idx, 3))
    (kk : ∀ (H1 : Heap) (locs1 : List Loc), RC x K M' H1 → va_S (AC K0) s.heap H1 locs1 → W p l e R s m args below meth c0 H1 locs1 cells slots Q (F0 m (pc + 3) ls rest)) : W p l e R s m args below meth c0 H locs cells slots Q (F0 m pc ls (v :: .ref a :: rest)) := by
  obtain ⟨hx, hb, hml, hown, hts, hE, hB, hr, hlk⟩ := CX
  obtain ⟨h9, hc, hin, hty, hnm⟩ := hC
  obtain ⟨hkN, hd, hCo, hl⟩ := hf
  have hk0 : kd K a ≠ 0 := by omega
  have h0 := (hR.2.2 a hk0).2
  rw [cel_obj hk h9] at h0
  refine raw_putF (D := x.1.1) (cl := vwCl) (ci := c) (v := v) (ty := ty k) (C := C) (T := T) (N := cN c) hx hb hts hin ty hty hnm hown hE.1 h0 hc k hkN (hts _ hl) (fun y hy => by rw [hd] at hy; exact hy) hfin hnm0 (hd.trans hCo) (hty k hkN) hn hv (by rw [fldC_len]; exact hkN) hdg (fun H1 j e1 e2 e3 => ?_)
  rw [fldC_set c M M' a hMv hMo] at e1
  refine kk H1 _ (hR.put hk0 e2 e3 hMb ?_) (hS.put e2 e3 (hL.2.2 a hk0))
  rw [cel_obj hk h9]
  exact e1
def FF (own : String) (idx : Nat) (C : String) (T : u_T) (c k : Nat) : Prop := k < cN c ∧ (T k).1 = C ∧ C = own ∧ Cond.fieldLink own idx C (T k).2.1 (T k).2.2.1 ∈ lwg
theorem tr_putFI (hC : KC c C T ty) (CX : CC p s m args meth c0 x K0 own cc nL rt) (hnm0 : meth.name = "<init>") (hR : RC x K M H) (hL : KLe K0 K) (hS : va_S (AC K0) s.heap H locs) {idx k : Nat} (hf : FF own idx C T c k) (h0 : cRf c k = false ∧ (T k).2.2.2 = true ∧ ty k = .int) {a : Nat} (hk : (kd K a == c + 1) = true) {v : Int32} (hdg : decode cc pc = .ok (.putfield idx, 3))
    (kk : ∀ (H1 : Heap) (locs1 : List Loc), RC x K (wI M a k v) H1 → va_S (AC K0) s.heap H1 locs1 → W p l e R s m args below meth c0 H1 locs1 cells slots Q (F0 m (pc + 3) ls rest)) : W p l e R s m args below meth c0 H locs cells slots Q (F0 m pc ls (.int v :: .ref a :: rest)) :=
  tr_putF hC CX hnm0 hR hL hS hf h0.2.1 (by simpa using hk) (by rw [h0.2.2]; rfl) (by rw [h0.2.2]; rfl) (fv_wI h0.1 M a v) (fv_wIo M a k v) (cel_wI _ K M a k v) hdg kk
theorem tr_putFZ (hC : KC c C T ty) (CX : CC p s m args meth c0 x K0 own cc nL rt) (hnm0 : meth.name = "<init>") (hR : RC x K M H) (hL : KLe K0 K) (hS : va_S (AC K0) s.heap H locs) {idx k : Nat} (hf : FF own idx C T c k) (h0 : cRf c k = false ∧ (T k).2.2.2 = true ∧ ty k = .boolean) {a : Nat} (hk : (kd K a == c + 1) = true) {v : Int32} (hv : is01 v = true) (hdg : decode cc pc = .ok (.putfield idx, 3))
    (kk : ∀ (H1 : Heap) (locs1 : List Loc), RC x K (wI M a k v) H1 → va_S (AC K0) s.heap H1 locs1 → W p l e R s m args below meth c0 H1 locs1 cells slots Q (F0 m (pc + 3) ls rest)) : W p l e R s m args below meth c0 H locs cells slots Q (F0 m pc ls (.int v :: .ref a :: rest)) :=
  tr_putF hC CX hnm0 hR hL hS hf h0.2.1 (by simpa using hk) (by rw [h0.2.2]; exact nar01 hv) (by rw [h0.2.2]; exact fit01 hv) (fv_wI h0.1 M a v) (fv_wIo M a k v) (cel_wI _ K M a k v) hdg kk
theorem tr_putFR (hC : KC c C T ty) (CX : CC p s m args meth c0 x K0 own cc nL rt) (hnm0 : meth.name = "<init>") (hR : RC x K M H) (hL : KLe K0 K) (hS : va_S (AC K0) s.heap H locs) {idx k : Nat} (hf : FF own idx C T c k) (h0 : cRf c k = true ∧ (T k).2.2.2 = true ∧ ((∃ n, ty k = .object n) ∨ ∃ t, ty k = .array t)) {a : Nat} (hk : (kd K a == c + 1) = true) {v : Option Nat} (hdg : decode cc pc = .ok (.putfield idx, 3))
    (kk : ∀ (H1 : Heap) (locs1 : List Loc), RC x K (wR M a k v) H1 → va_S (AC K0) s.heap H1 locs1 → W p l e R s m args below meth c0 H1 locs1 cells slots Q (F0 m (pc + 3) ls rest)) : W p l e R s m args below meth c0 H locs cells slots Q (F0 m pc ls (va_rf v :: .ref a :: rest)) :=
  tr_putF hC CX hnm0 hR hL hS hf h0.2.1 (by simpa using hk) (fits_rf h0.2.2 v).1 (fits_rf h0.2.2 v).2 (fv_wR h0.1 M a v) (fv_wRo M a k v) (cel_wR _ K M a k v) hdg kk

theorem tr_aastf (CX : CC p s m args meth c0 x K0 own cc nL rt) (hR : RC x K M H) (hL : KLe K0 K) (hS : va_S (AC K0) s.heap H locs) {a v : Nat} (hk : (kd K a == 25) = true) (hv : (kd K v == 2) = true) {i : Int32} (hin : vp_in i (le K a)) (hdg : decode cc pc = .ok (.aastore, 1))
    (kk : ∀ (H1 : Heap) (locs1 : List Loc), RC x K (wR M a i.toNatClampNeg (some v)) H1 → va_S (AC K0) s.heap H1 locs1 → W p l e R s m args below meth c0 H1 locs1 cells slots Q (F0 m (pc + 1) ls rest)) : W p l e R s m args below meth c0 H locs cells slots Q (F0 m pc ls (.ref v :: .int i :: .ref a :: rest)) := by
  obtain ⟨hx, hb, hml, hown, hts, hE, hB, hr, hlk⟩ := CX
  have hk : kd K a = 25 := by simpa using hk
  have hv : kd K v = 1 + 1 := by simpa using hv
  have hk0 : kd K a ≠ 0 := by omega
  have h0 := (hR.2.2 a hk0).2
  have h1 := (hR.2.2 v (by omega)).2
  rw [cel_f hk] at h0
  rw [cel_obj hv (by omega)] at h1
  have hlt : i.toNatClampNeg < le K a := Nat.not_le.mp fun q => hin (Or.inr q)
  have hi0 : ¬ i < 0 := fun q => hin (Or.inl q)
  obtain ⟨r', hr', cellV, g1, g2, g3, -⟩ := h1
  have hcls := (hE.1.1 1 (RX1, TX1, cN 1) rfl).2
  obtain ⟨kA, comp, k1, k2, k3, -⟩ := (hE.1.2 4 _ rfl).2
  have hcomp : comp = x.1.1.1 1 := Option.some.inj (k3.symm.trans hcls.1)
  subst hcomp
  obtain ⟨kC, hkC, -⟩ := hcls.2
  refine W.aast hx hb h0 (fun q h => by cases h) (fun h => by cases h) k1 k2 rfl hkC ⟨hi0, by show _ < (arrV _ _ _).slots.size; rw [arrV_size]; exact hlt⟩ g1 (fun q h => by rw [g3] at h; cases h) (by rw [g2]; exact hkC) (by rw [g2]; exact va_assign hcls) rfl rfl hdg fun H1 e1 e2 e3 => ?_
  refine kk H1 _ (hR.put hk0 e2 e3 (cel_wR _ K M a _ _) ?_) (hS.put e2 e3 (hL.2.2 a hk0))
  rw [cel_f hk, cR_wR]
  show H1[a]? = some (vp_cell _ _)
  rw [e1]
  rw [vp_cell_q, vp_cell_q, arrV_store]
  congr 2
  funext q
  by_cases hq : q = i.toNatClampNeg
  · subst hq
    simp [updV, va_up, va_rf]
  · simp [updV, va_up, hq]
theorem tr_anewf (CX : CC p s m args meth c0 x K0 own cc nL rt) (hL : KLe K0 K) (hR : RC x K M H) (hS : va_S (AC K0) s.heap H locs) {idx : Nat} (hw : Cond.classLink own idx "StationStarter$Frame" ∈ lwg) {n : Int32} (hn : decide (¬ n < 0 ∧ n.toNatClampNeg ≤ 1000000) = true) (hbud : kz (kNew K 25 n.toNatClampNeg n.toNatClampNeg) - kz K0 ≤ R.cells ∧ ku (kNew K 25 n.toNatClampNeg n.toNatClampNeg) - ku K0 ≤ R.slots) (hdg : decode cc pc = .ok (.anewarray idx, 3))
    (kk : ∀ (H1 : Heap), RC x (kNew K 25 n.toNatClampNeg n.toNatClampNeg) (mZ M (kz K)) H1 → va_S (AC K0) s.heap H1 locs → W p l e R s m args below meth c0 H1 locs (kz (kNew K 25 n.toNatClampNeg n.toNatClampNeg) - kz K0) (ku (kNew K 25 n.toNatClampNeg n.toNatClampNeg) - ku K0) Q (F0 m (pc + 3) ls (.ref (kz K) :: rest))) : W p l e R s m args below meth c0 H locs (kz K - kz K0) (ku K - ku K0) Q (F0 m pc ls (.int n :: rest)) := by
  obtain ⟨hx, hb, hml, hown, hts, hE, hB, hr, hlk⟩ := CX
  obtain ⟨n0, n1⟩ := of_decide_eq_true hn
  have l1 := hL.1
  have l2 := hL.2.1
  have e1 : kz K - kz K0 + 1 = kz (kNew K 25 n.toNatClampNeg n.toNatClampNeg) - kz K0 := by show kz K - kz K0 + 1 = kz K + 1 - kz K0; omega
  have e2 : ku K - ku K0 + n.toNatClampNeg = ku (kNew K 25 n.toNatClampNeg n.toNatClampNeg) - ku K0 := by show ku K - ku K0 + n.toNatClampNeg = ku K + n.toNatClampNeg - ku K0; omega
  refine W.anew hx hb hown (hts _ hw) (va_AO.use hE.2.2.2.2.2.2.2.2.1) rfl hdg rfl n0 (by omega) (by rw [e1]; exact hbud.1) (by rw [e2]; exact hbud.2) fun cA kA comp h1 h2 h3 h4 => ?_
  rw [e1, e2]
  obtain ⟨kA9, comp9, k1, k2, k3, k4⟩ := (hE.1.2 4 _ rfl).2
  have hcA : cA = x.1.2 4 := Option.some.inj (h1.symm.trans k4)
  subst hcA
  have hsz : H.size = kz K := hR.1
  rw [hsz]
  refine kk _ (hR.push (by simp) (fun q hq => by rw [Array.getElem?_push, if_neg (Nat.ne_of_lt hq)]) ?_) (hS.grow (by simp) (fun q hq => by rw [Array.getElem?_push, if_neg (Nat.ne_of_lt hq)]))
  rw [cel_f (kd_new _ _ _ _), le_new, cR_mZs]
  show (H.push _)[kz K]? = some (vp_cell _ _)
  rw [← hsz, vp_cell_q, Array.getElem?_push, if_pos rfl]
  congr 1
  simp [arrV, va_rf]
  apply Array.ext
  · simp
  · intro i h1 h2
    simp

theorem tr_aastu (CX : CC p s m args meth c0 x K0 own cc nL rt) (hR : RC x K M H) (hL : KLe K0 K) (hS : va_S (AC K0) s.heap H locs) {a v : Nat} (hk : (kd K a == 26) = true) (hv : (kd K v == 8) = true) {i : Int32} (hin : vp_in i (le K a)) (hdg : decode cc pc = .ok (.aastore, 1))
    (kk : ∀ (H1 : Heap) (locs1 : List Loc), RC x K (wR M a i.toNatClampNeg (some v)) H1 → va_S (AC K0) s.heap H1 locs1 → W p l e R s m args below meth c0 H1 locs1 cells slots Q (F0 m (pc + 1) ls rest)) : W p l e R s m args below meth c0 H locs cells slots Q (F0 m pc ls (.ref v :: .int i :: .ref a :: rest)) := by
  obtain ⟨hx, hb, hml, hown, hts, hE, hB, hr, hlk⟩ := CX
  have hk : kd K a = 26 := by simpa using hk
  have hv : kd K v = 7 + 1 := by simpa using hv
  have hk0 : kd K a ≠ 0 := by omega
  have h0 := (hR.2.2 a hk0).2
  have h1 := (hR.2.2 v (by omega)).2
  rw [cel_u hk] at h0
  rw [cel_obj hv (by omega)] at h1
  have hlt : i.toNatClampNeg < le K a := Nat.not_le.mp fun q => hin (Or.inr q)
  have hi0 : ¬ i < 0 := fun q => hin (Or.inl q)
  obtain ⟨r', hr', cellV, g1, g2, g3, -⟩ := h1
  have hcls := (hE.1.1 7 (RX7, TX7, cN 7) rfl).2
  obtain ⟨kA, comp, k1, k2, k3, -⟩ := (hE.1.2 5 _ rfl).2
  have hcomp : comp = x.1.1.1 7 := Option.some.inj (k3.symm.trans hcls.1)
  subst hcomp
  obtain ⟨kC, hkC, -⟩ := hcls.2
  refine W.aast hx hb h0 (fun q h => by cases h) (fun h => by cases h) k1 k2 rfl hkC ⟨hi0, by show _ < (arrV _ _ _).slots.size; rw [arrV_size]; exact hlt⟩ g1 (fun q h => by rw [g3] at h; cases h) (by rw [g2]; exact hkC) (by rw [g2]; exact va_assign hcls) rfl rfl hdg fun H1 e1 e2 e3 => ?_
  refine kk H1 _ (hR.put hk0 e2 e3 (cel_wR _ K M a _ _) ?_) (hS.put e2 e3 (hL.2.2 a hk0))
  rw [cel_u hk, cR_wR]
  show H1[a]? = some (vp_cell _ _)
  rw [e1]
  rw [vp_cell_q, vp_cell_q, arrV_store]
  congr 2
  funext q
  by_cases hq : q = i.toNatClampNeg
  · subst hq
    simp [updV, va_up, va_rf]
  · simp [updV, va_up, hq]
theorem tr_anewu (CX : CC p s m args meth c0 x K0 own cc nL rt) (hL : KLe K0 K) (hR : RC x K M H) (hS : va_S (AC K0) s.heap H locs) {idx : Nat} (hw : Cond.classLink own idx "StationStarter$Unit" ∈ lwg) {n : Int32} (hn : decide (¬ n < 0 ∧ n.toNatClampNeg ≤ 1000000) = true) (hbud : kz (kNew K 26 n.toNatClampNeg n.toNatClampNeg) - kz K0 ≤ R.cells ∧ ku (kNew K 26 n.toNatClampNeg n.toNatClampNeg) - ku K0 ≤ R.slots) (hdg : decode cc pc = .ok (.anewarray idx, 3))
    (kk : ∀ (H1 : Heap), RC x (kNew K 26 n.toNatClampNeg n.toNatClampNeg) (mZ M (kz K)) H1 → va_S (AC K0) s.heap H1 locs → W p l e R s m args below meth c0 H1 locs (kz (kNew K 26 n.toNatClampNeg n.toNatClampNeg) - kz K0) (ku (kNew K 26 n.toNatClampNeg n.toNatClampNeg) - ku K0) Q (F0 m (pc + 3) ls (.ref (kz K) :: rest))) : W p l e R s m args below meth c0 H locs (kz K - kz K0) (ku K - ku K0) Q (F0 m pc ls (.int n :: rest)) := by
  obtain ⟨hx, hb, hml, hown, hts, hE, hB, hr, hlk⟩ := CX
  obtain ⟨n0, n1⟩ := of_decide_eq_true hn
  have l1 := hL.1
  have l2 := hL.2.1
  have e1 : kz K - kz K0 + 1 = kz (kNew K 26 n.toNatClampNeg n.toNatClampNeg) - kz K0 := by show kz K - kz K0 + 1 = kz K + 1 - kz K0; omega
  have e2 : ku K - ku K0 + n.toNatClampNeg = ku (kNew K 26 n.toNatClampNeg n.toNatClampNeg) - ku K0 := by show ku K - ku K0 + n.toNatClampNeg = ku K + n.toNatClampNeg - ku K0; omega
  refine W.anew hx hb hown (hts _ hw) (va_AO.use hE.2.2.2.2.2.2.2.2.2) rfl hdg rfl n0 (by omega) (by rw [e1]; exact hbud.1) (by rw [e2]; exact hbud.2) fun cA kA comp h1 h2 h3 h4 => ?_
  rw [e1, e2]
  obtain ⟨kA9, comp9, k1, k2, k3, k4⟩ := (hE.1.2 5 _ rfl).2
  have hcA : cA = x.1.2 5 := Option.some.inj (h1.symm.trans k4)
  subst hcA
  have hsz : H.size = kz K := hR.1
  rw [hsz]
  refine kk _ (hR.push (by simp) (fun q hq => by rw [Array.getElem?_push, if_neg (Nat.ne_of_lt hq)]) ?_) (hS.grow (by simp) (fun q hq => by rw [Array.getElem?_push, if_neg (Nat.ne_of_lt hq)]))
  rw [cel_u (kd_new _ _ _ _), le_new, cR_mZs]
  show (H.push _)[kz K]? = some (vp_cell _ _)
  rw [← hsz, vp_cell_q, Array.getElem?_push, if_pos rfl]
  congr 1
  simp [arrV, va_rf]
  apply Array.ext
  · simp
  · intro i h1 h2
    simp
end TROWS2
