
/-! what holds at the law's start -/
def lw_fl : List Cond := flatC (Jvm.Cond.and given_1 narrow_1)
theorem lw_fi {w : Cond} (i : Nat) (h : lw_fl[i]? = some w) : w ∈ lw_fl := List.mem_of_getElem? h
theorem lw_wi {w : Cond} (i : Nat) (h : lw_tbl[i]? = some w) : w ∈ lw_tbl := List.mem_of_getElem? h
def stT (i : Nat) : Term := ([Term.string "StationStarter$Tape" 36, Term.string "StationStarter$Tape" 68, Term.string "StationStarter$Reader" 75, Term.string "StationStarter" 242, Term.string "StationStarter" 271, Term.string "StationStarter" 273, Term.string "StationStarter" 301, Term.string "StationStarter" 303] : List Term).getD i (.arg 0)
def stO (i : Nat) : Nat := ([37, 177, 196, 221, 240, 270, 293, 317] : List Nat).getD i 0
def lw_ne : List Cond := lw_fl.filter (fun c => match c with | .not _ => true | _ => false)

theorem sl_ex : ∀ i, i < 8 → Cond.exactly (stT i) "java/lang/String" ∈ lw_fl := by decide +kernel
theorem sl_co : ∀ i, i < 8 → Cond.eq (.field (stT i) "java/lang/String" "coder" "B") (.int 0) ∈ lw_fl := by decide +kernel
theorem sl_ar : ∀ i, i < 8 → Cond.arrayOf (.field (stT i) "java/lang/String" "value" "[B") .byte ∈ lw_fl := by decide +kernel
theorem sl_le : ∀ i, i < 8 → Cond.eq (.length (.field (stT i) "java/lang/String" "value" "[B")) (.int (Int32.ofNat (strL.getD i 0))) ∈ lw_fl := by decide +kernel
theorem sl_el : ∀ i, i < 8 → ∀ j, j < strL.getD i 0 → lw_fl[stO i + j]? = some (Cond.eq (.elem (.field (stT i) "java/lang/String" "value" "[B") (.int (Int32.ofNat j))) (.int ((strB.getD i []).getD j 0))) := by decide +kernel
theorem sl_ne : ∀ i, i < 8 → ∀ j, j < 8 → i ≠ j → Cond.not (Cond.eq (stT i) (stT j)) ∈ lw_ne ∨ Cond.not (Cond.eq (stT j) (stT i)) ∈ lw_ne := by decide +kernel
theorem sl_N : ∀ i, i < 8 → strL.getD i 0 < 2 ^ 31 := by decide +kernel
theorem lw_arr {s : State} {args : Array Value} {ty : FieldType} (hp : va_RA s = va_RA s) (h : (Cond.arrayClass ty).before args s = true) (hr : ∀ c, s.vm.findClass ("[" ++ ty.toString) = some c → va_RA s c ty) : ∃ c, ArrOfT s c ty ∧ va_RA s c ty := by
  obtain ⟨c, k, comp, h1, h2, h3⟩ := Cond.arrayClass_spec h
  exact ⟨c, fun n z => ⟨fun k h => (by cases h), k, h2, comp, h3⟩, hr c h1⟩
theorem lw_ao {s : State} {args : Array Value} {n : String} (h : (Cond.arrayOver (.object n)).before args s = true) : ∃ c, ArrOfT s c (.object n) ∧ va_RA s c (.object n) := by
  obtain ⟨comp, c, k, h1, h2, h3, h4, h5⟩ := Cond.arrayOver_spec h
  exact ⟨c, fun n z => ⟨fun k h => (by cases h), k, h3, comp, h4⟩, k, comp, h3, h4, h1, h5⟩
set_option maxRecDepth 100000 in
set_option maxHeartbeats 4000000 in
theorem lw_ev {s : State} {b : Nat} (hts : ∀ w ∈ lw_tbl, w.before #[Value.ref b] s = true) (hgv : (Jvm.Cond.and given_1 narrow_1).before #[Value.ref b] s = true) : ∃ x : Xc, x.2.1 = s.heap.size ∧ EV x s s.heap := by
  have hfl : ∀ w ∈ lw_fl, w.before #[Value.ref b] s = true := flat_of_before _ hgv
  have htg : ∀ w ∈ lwg, w.before #[Value.ref b] s = true := fun w hw => hts w (List.mem_filter.mp hw).1
  have hA : ∀ a : Nat, a < s.heap.size → ¬ (s.heap.size ≤ a) := fun a h => Nat.not_le.mpr h
  obtain ⟨c0, i0, hk0⟩ := u_known (C := RX0) (T := TX0) (N := 8) (n := 8) htg i_X0 (hts _ (lw_wi 333 (by decide +kernel)))
  obtain ⟨c1, i1, hk1⟩ := u_known (C := RX1) (T := TX1) (N := 6) (n := 6) htg i_X1 (hts _ (lw_wi 374 (by decide +kernel)))
  obtain ⟨c2, i2, hk2⟩ := u_known (C := RX2) (T := TX2) (N := 17) (n := 17) htg i_X2 (hts _ (lw_wi 367 (by decide +kernel)))
  obtain ⟨c3, i3, hk3⟩ := u_known (C := RX3) (T := TX3) (N := 6) (n := 6) htg i_X3 (hts _ (lw_wi 247 (by decide +kernel)))
  obtain ⟨c4, i4, hk4⟩ := u_known (C := RX4) (T := TX4) (N := 12) (n := 12) htg i_X4 (hts _ (lw_wi 273 (by decide +kernel)))
  obtain ⟨c5, i5, hk5⟩ := u_known (C := RX5) (T := TX5) (N := 14) (n := 14) htg i_X5 (hts _ (lw_wi 462 (by decide +kernel)))
  obtain ⟨c6, i6, hk6⟩ := u_known (C := RX6) (T := TX6) (N := 7) (n := 7) htg i_X6 (hts _ (lw_wi 153 (by decide +kernel)))
  obtain ⟨c7, i7, hk7⟩ := u_known (C := RX7) (T := TX7) (N := 14) (n := 14) htg i_X7 (hts _ (lw_wi 792 (by decide +kernel)))
  obtain ⟨c8, i8, hk8⟩ := u_known (C := RX8) (T := TX8) (N := 13) (n := 13) htg i_X8 (hts _ (lw_wi 145 (by decide +kernel)))
  obtain ⟨c9, i9, hk9⟩ := u_known (C := RX9) (T := TX9) (N := 108) (n := 108) htg i_X9 (hts _ (lw_wi 1389 (by decide +kernel)))
  obtain ⟨t0, ha0⟩ := lw_arr (ty := .char) rfl (hts _ (lw_wi 242 (by decide +kernel))) (fun c h => h)
  obtain ⟨t1, ha1⟩ := lw_arr (ty := .int) rfl (hts _ (lw_wi 243 (by decide +kernel))) (fun c h => h)
  obtain ⟨t2, ha2⟩ := lw_arr (ty := .long) rfl (hts _ (lw_wi 244 (by decide +kernel))) (fun c h => h)
  obtain ⟨t3, ha3⟩ := lw_arr (ty := .boolean) rfl (hts _ (lw_wi 867 (by decide +kernel))) (fun c h => h)
  have hao4 : (Cond.arrayOver (.object "StationStarter$Frame")).before #[Value.ref b] s = true := hts _ (lw_wi 373 (by decide +kernel))
  obtain ⟨t4, ha4⟩ := lw_ao hao4
  have hao5 : (Cond.arrayOver (.object "StationStarter$Unit")).before #[Value.ref b] s = true := hts _ (lw_wi 471 (by decide +kernel))
  obtain ⟨t5, ha5⟩ := lw_ao hao5
  obtain ⟨adK, adV, hvs, hev⟩ := vk_Sof (A := fun q => s.heap.size ≤ q) (N := strN) (tm := stT) (len := strL) (byt := strB) sl_N (fun i hi => hfl _ (sl_ex i hi)) (fun i hi => hfl _ (sl_co i hi)) (fun i hi => hfl _ (sl_ar i hi)) (fun i hi => hfl _ (sl_le i hi)) (fun i hi j hj => hfl _ (lw_fi _ (sl_el i hi j hj))) (fun i j hi hj hij => (sl_ne i hi j hj hij).imp (fun z => hfl _ (List.mem_filter.mp z).1) (fun z => hfl _ (List.mem_filter.mp z).1)) hA
  have hthr : (Cond.initialized "java/lang/Throwable").before #[Value.ref b] s = true := hts _ (lw_wi 136 (by decide +kernel))
  have hz1 := vx_Zqof (A := fun q => s.heap.size ≤ q) (C := Bundle.tN) (n := "UNASSIGNED_STACK") (d := Bundle.steD) (hts _ (lw_wi 718 (by decide +kernel))) hthr (hfl _ (lw_fi 9 (by decide +kernel))) hA
  have hz2 := vx_Zqof (A := fun q => s.heap.size ≤ q) (C := Bundle.tN) (n := "SUPPRESSED_SENTINEL") (d := Bundle.listD) (hts _ (lw_wi 720 (by decide +kernel))) hthr (hfl _ (lw_fi 10 (by decide +kernel))) hA
  have hz3 := va_Zof (A := fun q => s.heap.size ≤ q) (C := "java/lang/String") (n := "COMPACT_STRINGS") (d := "Z") (v := .int 1) (hts _ (lw_wi 168 (by decide +kernel))) (hts _ (lw_wi 123 (by decide +kernel))) (va_eqi (hfl _ (lw_fi 4 (by decide +kernel)))) hA
  have hz4 := va_Zqof (A := fun q => s.heap.size ≤ q) (C := "jdk/internal/util/Preconditions") (n := "SIOOBE_FORMATTER") (d := "Ljava/util/function/BiFunction;") (hts _ (lw_wi 184 (by decide +kernel))) (hts _ (lw_wi 125 (by decide +kernel))) (hfl _ (lw_fi 5 (by decide +kernel))) hA
  obtain ⟨pf, hz5⟩ : ∃ pf : Option Nat, va_Z "jdk/internal/util/Preconditions" "SIOOBE_FORMATTER" "Ljava/util/function/BiFunction;" (va_rf pf) (fun q => s.heap.size ≤ q) s s.heap := by
    rcases hz4 with h | ⟨t, h⟩
    · exact ⟨none, h⟩
    · exact ⟨some t, h⟩
  refine ⟨(((fun k => if k = 0 then c0 else if k = 1 then c1 else if k = 2 then c2 else if k = 3 then c3 else if k = 4 then c4 else if k = 5 then c5 else if k = 6 then c6 else if k = 7 then c7 else if k = 8 then c8 else c9, fun k => if k = 0 then i0 else if k = 1 then i1 else if k = 2 then i2 else if k = 3 then i3 else if k = 4 then i4 else if k = 5 then i5 else if k = 6 then i6 else if k = 7 then i7 else if k = 8 then i8 else i9), fun k => if k = 0 then t0 else if k = 1 then t1 else if k = 2 then t2 else if k = 3 then t3 else if k = 4 then t4 else t5), s.heap.size, adK, adV, pf), rfl, ⟨fun k q hq => ?_, fun k q hq => ?_⟩, fun w hw => ?_, hvs, fun q hq => ?_, hz1, hz2, hz3, hz5, hao4, hao5⟩
  · match k, hq with
    | 0, hq => cases hq; exact hk0
    | 1, hq => cases hq; exact hk1
    | 2, hq => cases hq; exact hk2
    | 3, hq => cases hq; exact hk3
    | 4, hq => cases hq; exact hk4
    | 5, hq => cases hq; exact hk5
    | 6, hq => cases hq; exact hk6
    | 7, hq => cases hq; exact hk7
    | 8, hq => cases hq; exact hk8
    | 9, hq => cases hq; exact hk9
    | k + 10, hq => simp [vwCl] at hq
  · match k, hq with
    | 0, hq => cases hq; exact ha0
    | 1, hq => cases hq; exact ha1
    | 2, hq => cases hq; exact ha2
    | 3, hq => cases hq; exact ha3
    | 4, hq => cases hq; exact ha4
    | 5, hq => cases hq; exact ha5
    | k + 6, hq => simp [dT] at hq
  · exact va_tabs (nw_on hw) rfl (hts w (List.mem_filter.mp hw).1)
  · have hm : q = ("StationStarter$Tape", 36, 0) ∨ q = ("StationStarter$Tape", 68, 1) ∨ q = ("StationStarter$Reader", 75, 2) ∨ q = ("StationStarter", 242, 3) ∨ q = ("StationStarter", 271, 4) ∨ q = ("StationStarter", 273, 5) ∨ q = ("StationStarter", 301, 6) ∨ q = ("StationStarter", 303, 7) ∨ q = ("StationStarterModel", 34, 0) := by simpa [strR] using hq
    rcases hm with rfl | rfl | rfl | rfl | rfl | rfl | rfl | rfl | rfl
    · exact vk_R.of (hts _ (lw_wi 158 (by decide +kernel))) (hev 0 (by decide))
    · exact vk_R.of (hts _ (lw_wi 615 (by decide +kernel))) (hev 1 (by decide))
    · exact vk_R.of (hts _ (lw_wi 731 (by decide +kernel))) (hev 2 (by decide))
    · exact vk_R.of (hts _ (lw_wi 1353 (by decide +kernel))) (hev 3 (by decide))
    · exact vk_R.of (hts _ (lw_wi 1360 (by decide +kernel))) (hev 4 (by decide))
    · exact vk_R.of (hts _ (lw_wi 1368 (by decide +kernel))) (hev 5 (by decide))
    · exact vk_R.of (hts _ (lw_wi 1376 (by decide +kernel))) (hev 6 (by decide))
    · exact vk_R.of (hts _ (lw_wi 1377 (by decide +kernel))) (hev 7 (by decide))
    · exact vk_R.of (hts _ (lw_wi 1396 (by decide +kernel))) (va_eqR (hfl _ (lw_fi 488 (by decide +kernel))) (hev 0 (by decide)))
theorem cj_L_21 : CWi RL 21 yX8_init cX8_init 1 0 := ⟨Or.inl (lwg_in 146 (by decide +kernel) (by decide +kernel)), lwg_in 147 (by decide +kernel) (by decide +kernel), in_X8, lwg_in 148 (by decide +kernel) (by decide +kernel), rfl, by decide +kernel⟩
theorem cj_L_24 : CWi RL 24 yX9_init cX9_init 6 0 := ⟨Or.inl (lwg_in 1392 (by decide +kernel) (by decide +kernel)), lwg_in 1393 (by decide +kernel) (by decide +kernel), in_X9, lwg_in 1394 (by decide +kernel) (by decide +kernel), rfl, by decide +kernel⟩
theorem cn_L_8 : CN RL 8 RX8 (cN 8) := ⟨lwg_in 144 (by decide +kernel) (by decide +kernel), lwg_in 145 (by decide +kernel) (by decide +kernel), lwg_in 121 (by decide +kernel) (by decide +kernel)⟩
theorem cn_L_22 : CN RL 22 RX9 (cN 9) := ⟨lwg_in 1391 (by decide +kernel) (by decide +kernel), lwg_in 1389 (by decide +kernel) (by decide +kernel), lwg_in 134 (by decide +kernel) (by decide +kernel)⟩

def K00 (z : Nat) : Ka := (fun _ => (0, 0), z, 0)
def M00 : Cm := (fun _ _ => 0, fun _ _ => 0, fun _ _ => none)
def inlO {α : Type} (v : Option (α ⊕ (Ka × Cm))) : Option α := match v with
  | some (.inl a) => some a
  | _ => none
theorem inlO_some {α : Type} {v : Option (α ⊕ (Ka × Cm))} {a : α} (h : inlO v = some a) : v = some (.inl a) := by
  match v, h with
  | some (.inl b), h => cases h; rfl
  | some (.inr q), h => cases h
  | none, h => cases h
/-- after the constructors: the component's cells with the reference's among them, where the reference begins, where it ends (there lies out) -/
def fInit (N : Nat) (sa : Nat → Nat) (z : Nat) : Option (Ka × Cm × Nat × Nat) := (inlO (fT_X8_init N z (kNew (K00 z) 9 0 (cN 8)) (mZ M00 z))).bind fun o1 => (inlO (fT_X9_init N sa (kz o1.1) (kNew o1.1 10 0 (cN 9)) (mZ o1.2 (kz o1.1)))).bind fun o2 => some (kNew o2.1 23 1 1, mZ o2.2 (kz o2.1), kz o1.1, kz o2.1)
def kCut (a2 a3 : Nat) (K : Ka) : Ka := (fun a => if a2 ≤ a ∧ a < a3 then (0, 0) else K.1 a, K.2)
def gOf (a2 : Nat) (M : Cm) : Gm := (a2, fun k => (cR M a2 k).getD 0)
def sOf (a2 : Nat) (M : Cm) : Ms := (fun k => cI M a2 k, fun k j => cI M ((cR M a2 k).getD 0) j, fun k j => cL M ((cR M a2 k).getD 0) j)
def kS (k : Nat) : Nat := if srt k = 1 then 22 else if srt k = 2 then 23 else 24
def spl (a2 a3 : Nat) (K : Ka) (M : Cm) : Prop := kd K a2 = 10 ∧ (∀ k, k < 108 → srt k ≠ 0 → ∃ q, cR M a2 k = some q) ∧ (∀ k, isR k → ∃ q, cR M a2 k = some q ∧ kd K q = kS k ∧ le K q = lnM k ∧ a2 < q ∧ q < a3) ∧ (∀ k j, isR k → isR j → cR M a2 k = cR M a2 j → k = j) ∧ a2 < a3 ∧ a3 ≤ kz K
theorem cRf9 : ∀ k, k < 108 → (cRf 9 k = true ↔ srt k ≠ 0) := by decide +kernel
theorem spl_LWd {x : Xc} {K : Ka} {M : Cm} {H : Heap} {a2 a3 : Nat} (hR : RC x K M H) (h : spl a2 a3 K M) : LWd x (gOf a2 M) (kCut a2 a3 K) M (sOf a2 M) H := by
  obtain ⟨h1, h2, h3, h4, h5, h6⟩ := h
  have hg2 : ∀ k q, cR M a2 k = some q → (gOf a2 M).2 k = q := fun k q e => by simp [gOf, e]
  have hcut : ∀ a, kd (kCut a2 a3 K) a ≠ 0 → ¬ (a2 ≤ a ∧ a < a3) ∧ kd (kCut a2 a3 K) a = kd K a ∧ le (kCut a2 a3 K) a = le K a := fun a ha => by
    by_cases hc : a2 ≤ a ∧ a < a3
    · exfalso
      apply ha
      simp [kd, kCut, hc]
    · refine ⟨hc, ?_, ?_⟩
      · simp [kd, kCut, hc]
      · simp [le, kCut, hc]
  refine ⟨⟨hR.1, hR.2.1, fun a ha => ?_⟩, ⟨?_, fun k hk => ?_⟩, ⟨fun k hk => ?_, fun k j hk hj e => ?_⟩, fun q hq => ?_⟩
  · obtain ⟨-, g2, g3⟩ := hcut a ha
    rw [g2] at ha
    have h9 := hR.2.2 a ha
    refine ⟨h9.1, ?_⟩
    have e : cel x.1 (kCut a2 a3 K) M a = cel x.1 K M a := by simp only [cel, g2, g3]
    rw [e]
    exact h9.2
  · have h9 := (hR.2.2 a2 (by rw [h1]; decide)).2
    rw [cel_obj (c := 9) (by rw [h1]) (by decide)] at h9
    have e : fldC 9 M a2 = fldM (gOf a2 M) (sOf a2 M) := by
      unfold fldC fldM
      apply List.map_congr_left
      intro k hk
      have hk8 : k < 108 := List.mem_range.mp hk
      unfold fvC fldV
      by_cases hs : srt k = 0
      · have hc : ¬ cRf 9 k = true := fun z => (cRf9 k hk8).mp z hs
        rw [if_neg hc, if_pos hs]
        rfl
      · have hc : cRf 9 k = true := (cRf9 k hk8).mpr hs
        obtain ⟨q, hq⟩ := h2 k hk8 hs
        rw [if_pos hc, if_neg hs, hg2 k q hq, hq]
        rfl
    rw [e] at h9
    exact h9
  · obtain ⟨q, hq, hkd, hle, -, -⟩ := h3 k hk
    have h9 := (hR.2.2 q (by rw [hkd]; unfold kS; split <;> [decide; (split <;> decide)])).2
    rw [hg2 k q hq]
    have em : mA (sOf a2 M) k = cI M q := by funext j; simp [mA, sOf, hq]
    have el : mL (sOf a2 M) k = cL M q := by funext j; simp [mL, sOf, hq]
    rcases hk with hk | hk | hk
    · rw [arM_1 hk, em, ← hle, ← cel_i (d := x.1) (K := K) (M := M) (a := q) (by rw [hkd]; simp [kS, hk])]
      exact h9
    · rw [arM_2 hk, el, ← hle, ← cel_l (d := x.1) (K := K) (M := M) (a := q) (by rw [hkd]; simp [kS, hk])]
      exact h9
    · rw [arM_3 hk, em, ← hle, ← cel_z (d := x.1) (K := K) (M := M) (a := q) (by rw [hkd]; simp [kS, hk])]
      exact h9
  · obtain ⟨q, hq, -, -, hlt, -⟩ := h3 k hk
    rw [hg2 k q hq]
    show q ≠ a2
    omega
  · obtain ⟨q, hq, -⟩ := h3 k hk
    obtain ⟨q', hq', -⟩ := h3 j hj
    rw [hg2 k q hq, hg2 j q' hq'] at e
    exact h4 k j hk hj (by rw [hq, hq', e])
  · have hin : a2 ≤ q ∧ q < a3 ∧ kd K q ≠ 0 := by
      rcases hq with rfl | ⟨k, hk, rfl⟩
      · exact ⟨Nat.le_refl _, h5, by show kd K a2 ≠ 0; rw [h1]; decide⟩
      · obtain ⟨q, hq, hkd, -, hlt, hlt2⟩ := h3 k hk
        rw [hg2 k q hq]
        exact ⟨Nat.le_of_lt hlt, hlt2, by rw [hkd]; unfold kS; split <;> [decide; (split <;> decide)]⟩
    refine ⟨(hR.2.2 q hin.2.2).1, Nat.lt_of_lt_of_le hin.2.1 h6, ?_⟩
    simp [kd, kCut, hin.1, hin.2.1]
theorem lw_ret1 {p : Program} {l : Launch} {e : Env} {s : State} {m : MethodId} {below : List Frame} {meth : Method} {c : Code} {b : Nat} (hx : p.tables.exec = Jvm.exec) (hb : c.code = code) (hr : meth.sig.returnType = ret) (hlocks : meth.locks = false) (H : Heap) (ls : Array Slot) : W p l e room_1 s m #[Value.ref b] below meth c H [] 601024 7293034 (lw_Z below #[Value.ref b] s) (F0 m 1062 ls []) := by
  refine lv_iconst (v := 1) hx hb dL_law_1062 (by decide) ?_
  exact lw_ret hx hb hr hlocks dL_law_1063
set_option maxRecDepth 100000 in
set_option maxHeartbeats 4000000 in
/-- the law's walk out of the pure functions -/
theorem whole_walk {p : Program} {e : Env} {s : State} {m : MethodId} {below : List Frame} {meth : Method} {c : Code} (l : Launch) (hlt : l.stackTraces = false) {b L : Nat} {xs : Nat → Int32} (hL : L ≤ 3584) (C0 : lw_At p s m meth c b L xs)
    (hpure : ∀ (z : Nat) (sa : Nat → Nat), ∃ (N n : Nat) (K : Ka) (M : Cm) (a2 a3 : Nat), fInit N sa z = some (K, M, a2, a3) ∧ spl a2 a3 K M ∧ rmOK (K00 z) K = true ∧ fLaw N z a3 L xs (K00 z) n 0 (kCut a2 a3 K) M (sOf a2 M) = some ()) :
    W p l e room_1 s m #[Value.ref b] below meth c s.heap [] 0 0 (lw_Z below #[Value.ref b] s) (entryFrame m ([Value.ref b] : List Value).toArray 7) := by
  obtain ⟨hx, hb, hr, hml, hown, hts, hX, hbl, hlocks, hgv⟩ := id C0
  obtain ⟨x, hxs, hE⟩ := lw_ev hts hgv
  obtain ⟨N, n, K5, M5, a2, a3, hI, hspl, hrm, hlaw⟩ := hpure s.heap.size x.2.2.1
  have hB : ∀ q, AC (K00 s.heap.size) q → lo0 x q := fun q z => by
    rcases z with z | z
    · exact absurd rfl z
    · show x.2.1 ≤ q
      rw [hxs]; exact z
  have CX : CC p s m #[Value.ref b] meth c x (K00 s.heap.size) RL code 7 ret := ⟨hx, hb, hml, hown, fun w hw => hts w (List.mem_filter.mp hw).1, hE, hB, hr, hlocks⟩
  have hbA : ¬ AC (K00 s.heap.size) b := fun z => by
    rcases z with z | z
    · exact absurd rfl z
    · exact absurd hbl (Nat.not_lt.mpr z)
  have C : CL p l s m meth c x (K00 s.heap.size) b L xs := ⟨CX, hlt, rfl, hxs, hX, hbl, hbA⟩
  have hl := lv_entry ([.ref b]) (n := 7) (Nat.le_of_ble_eq_true rfl)
  rw [lg_entry_eq]
  generalize (lg_sl ([.ref b]) ++ List.replicate (7 - (lg_sl ([.ref b])).length) Slot.unset).toArray = ls at hl ⊢
  have hl : lv_has ls 7 [(0, .ref b)] := hl
  have hR : RC x (K00 s.heap.size) M00 s.heap := ⟨rfl, by rw [hxs]; exact Nat.le_refl _, fun a ha => absurd rfl ha⟩
  have hS : va_S (AC (K00 s.heap.size)) s.heap s.heap [] := va_S.rf
  have hL0 := KLe.rf (K00 s.heap.size)
  have h0 : kz (K00 s.heap.size) - kz (K00 s.heap.size) = 0 := Nat.sub_self _
  have h0u : ku (K00 s.heap.size) - ku (K00 s.heap.size) = 0 := Nat.sub_self _
  unfold fInit at hI
  obtain ⟨o1, ho1, hI⟩ := bnd_some hI
  obtain ⟨o2, ho2, hI⟩ := bnd_some hI
  have ho1 := inlO_some ho1
  have ho2 := inlO_some ho2
  have m1 : KLe _ o1.1 := mfT_X8_init _ _ _ ho1
  have m2 : KLe _ o2.1 := mfT_X9_init _ _ _ ho2
  have k1 := kNew_le (K00 s.heap.size) 9 0 (cN 8)
  have k2 := kNew_le o1.1 10 0 (cN 9)
  have k3 := kNew_le o2.1 23 1 1
  have hcs : kz K5 - kz (K00 s.heap.size) ≤ 601024 ∧ ku K5 - ku (K00 s.heap.size) ≤ 7293034 := of_decide_eq_true hrm
  have hK5 : K5 = kNew o2.1 23 1 1 := by cases hI; rfl
  have bud : ∀ {K : Ka}, KLe K K5 → kz K - kz (K00 s.heap.size) ≤ room_1.cells ∧ ku K - ku (K00 s.heap.size) ≤ room_1.slots := fun {K} h => by
    obtain ⟨g1, g2, -⟩ := h
    constructor
    · show _ ≤ 601024
      omega
    · show _ ≤ 7293034
      omega
  have l3 : KLe (kNew o2.1 23 1 1) K5 := by rw [hK5]; exact KLe.rf _
  have l2 := k3.tr l3
  have l2' := m2.tr l2
  have l1 := k2.tr l2'
  have l1' := m1.tr l1
  refine W.cs h0.symm h0u.symm ?_
  refine tr_new kc_8 df_8 CX hL0 hR hS cn_L_8 (bud l1') dL_law_0 (fun H hR hS => ?_)
  refine lv_dup hx hb dL_law_3 rfl ?_
  refine ta_callVi CX (hL0.tr k1) hR hS (As := []) (rest := [.ref (kz (K00 s.heap.size))]) (MT_X8_init l x hlt N _ _ _ _ ho1) cj_L_21 ⟨by decide, by decide⟩ rfl (Nat.le_of_ble_eq_true rfl) hl.1 m1 (bud l1) rfl dL_law_4 (fun H locs hR hS => ?_)
  refine lv_astore_n (lv' := [(1, .ref s.heap.size), (0, .ref b)]) hx hb dL_law_7 rfl hl (by decide) rfl (fun ls hl => ?_)
  refine tr_new kc_9 df_9 CX (k1.tr m1) hR hS cn_L_22 (bud l2') dL_law_8 (fun H hR hS => ?_)
  refine lv_dup hx hb dL_law_11 rfl ?_
  refine ta_callVi CX ((k1.tr m1).tr k2) hR hS (As := []) (rest := [.ref (kz o1.1)]) (MT_X9_init l x hlt N _ _ _ _ ho2) cj_L_24 ⟨by decide, by decide⟩ rfl (Nat.le_of_ble_eq_true rfl) hl.1 m2 (bud l2) rfl dL_law_12 (fun H locs hR hS => ?_)
  refine lv_astore_n (lv' := [(2, .ref (kz o1.1)), (1, .ref s.heap.size), (0, .ref b)]) hx hb dL_law_15 rfl hl (by decide) rfl (fun ls hl => ?_)
  refine lv_iconst (v := 1) hx hb dL_law_16 (by decide) ?_
  refine tr_newal CX (((k1.tr m1).tr k2).tr m2) hR hS (by decide) (bud l3) dL_law_17 (fun H hR hS => ?_)
  refine lv_astore_n (lv' := [(3, .ref (kz o2.1)), (2, .ref (kz o1.1)), (1, .ref s.heap.size), (0, .ref b)]) hx hb dL_law_19 rfl hl (by decide) rfl (fun ls hl => ?_)
  refine lv_iconst (v := 0) hx hb dL_law_20 (by decide) ?_
  refine lv_istore (lv' := [(4, .int 0), (3, .ref (kz o2.1)), (2, .ref (kz o1.1)), (1, .ref s.heap.size), (0, .ref b)]) hx hb dL_law_21 hl (by decide) rfl (fun ls hl => ?_)
  cases hI
  have hW := spl_LWd (K := kNew o2.1 23 1 1) hR hspl
  have hLc : KLe (K00 s.heap.size) (kCut (kz o1.1) (kz o2.1) (kNew o2.1 23 1 1)) := by
    obtain ⟨g1, g2, g3⟩ := ((((k1.tr m1).tr k2).tr m2).tr k3)
    refine ⟨g1, g2, fun a ha => g3 a (fun z => ha ?_)⟩
    by_cases hc : kz o1.1 ≤ a ∧ a < kz o2.1
    · simp [kd, kCut, hc]
    · have e : kd (kCut (kz o1.1) (kz o2.1) (kNew o2.1 23 1 1)) a = kd (kNew o2.1 23 1 1) a := by simp [kd, kCut, hc]
      rw [e]; exact z
  exact wLaw (N := N) (a1 := s.heap.size) (a3 := kz o2.1) (g := gOf (kz o1.1) (mZ o2.2 (kz o2.1))) C hL (lw_ret1 hx hb hr hlocks) n 0 _ _ _ H _ ls (by omega) hrm hlaw hLc hW hS (lv_sub hl [4, 3, 2, 1, 0] rfl)
