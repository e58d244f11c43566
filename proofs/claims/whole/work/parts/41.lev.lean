
/-! what holds at the law's start -/
def lw_fl : List Cond := flatC (Jvm.Cond.and given_1 narrow_1)
theorem lw_fi {w : Cond} (i : Nat) (h : lw_fl[i]? = some w) : w ∈ lw_fl := List.mem_of_getElem? h
theorem lw_wi {w : Cond} (i : Nat) (h : lw_tbl[i]? = some w) : w ∈ lw_tbl := List.mem_of_getElem? h
def stT (i : Nat) : Term := ([Term.string "StationStarter$Tape" 36, Term.string "StationStarter$Tape" 68, Term.string "StationStarter$Reader" 75, Term.string "StationStarter" 242, Term.string "StationStarter" 271, Term.string "StationStarter" 273, Term.string "StationStarter" 301, Term.string "StationStarter" 303] : List Term).getD i (.arg 0)
def stO (i : Nat) : Nat := ([37, 177, 196, 221, 240, 270, 293, 317] : List Nat).getD i 0
def lw_ne : List Cond := lw_fl.filter (fun c => match c with | .not _ => true | _ => false)

theorem sl_ex : ∀ i, i < 8 → Cond.exactly (stT i) "java/lang/String" ∈ lw_fl := by decide +kernel
theorem sl_co : ∀ i, i < 8 → Cond.eq (.field (stT i) "java/lang/String" "coder" "B") (.int 0) ∈ lw_fl := by decide +kernel
theorem sl_ar : ∀ i, i < 8 → Cond.arrayOf (.field (stT i) "java/lang/String" "value" "[B") .byte ∈ lw_fl := by decide +kernel
theorem sl_le : ∀ i, i < 8 → Cond.eq (.length (.field (stT i) "java/lang/String" "value" "[B")) (.int (Int32.ofNat (strL.getD i 0))) ∈ lw_fl := by decide +kernel
theorem sl_el : ∀ i, i < 8 → ∀ j, j < strL.getD i 0 → lw_fl[stO i + j]? = some (Cond.eq (.elem (.field (stT i) "java/lang/String" "value" "[B") (.int (Int32.ofNat j))) (.int ((strB.getD i []).getD j 0))) := by decide +kernel
theorem sl_ne : ∀ i, i < 8 → ∀ j, j < 8 → i ≠ j → Cond.not (Cond.eq (stT i) (stT j)) ∈ lw_ne ∨ Cond.not (Cond.eq (stT j) (stT i)) ∈ lw_ne := by decide +kernel
theorem sl_N : ∀ i, i < 8 → strL.getD i 0 < 2 ^ 31 := by decide +kernel
theorem lw_arr {s : State} {args : Array Value} {ty : FieldType} (hp : va_RA s = va_RA s) (h : (Cond.arrayClass ty).before args s = true) (hr : ∀ c, s.vm.findClass ("[" ++ ty.toString) = some c → va_RA s c ty) : ∃ c, ArrOfT s c ty ∧ va_RA s c ty := by
  obtain ⟨c, k, comp, h1, h2, h3⟩ := Cond.arrayClass_spec h
  exact ⟨c, fun n z => ⟨fun k h => (by cases h), k, h2, comp, h3⟩, hr c h1⟩
theorem lw_ao {s : State} {args : Array Value} {n : String} (h : (Cond.arrayOver (.object n)).before args s = true) : ∃ c, ArrOfT s c (.object n) ∧ va_RA s c (.object n) := by
  obtain ⟨comp, c, k, h1, h2, h3, h4, h5⟩ := Cond.arrayOver_spec h
  exact ⟨c, fun n z => ⟨fun k h => (by cases h), k, h3, comp, h4⟩, k, comp, h3, h4, h1, h5⟩
set_option maxRecDepth 100000 in
set_option maxHeartbeats 4000000 in
theorem lw_ev {s : State} {b : Nat} (hts : ∀ w ∈ lw_tbl, w.before #[Value.ref b] s = true) (hgv : (Jvm.Cond.and given_1 narrow_1).before #[Value.ref b] s = true) : ∃ x : Xc, x.2.1 = s.heap.size ∧ EV x s s.heap := by
  have hfl : ∀ w ∈ lw_fl, w.before #[Value.ref b] s = true := flat_of_before _ hgv
  have htg : ∀ w ∈ lwg, w.before #[Value.ref b] s = true := fun w hw => hts w (List.mem_filter.mp hw).1
  have hA : ∀ a : Nat, a < s.heap.size → ¬ (s.heap.size ≤ a) := fun a h => Nat.not_le.mpr h
  obtain ⟨c0, i0, hk0⟩ := u_known (C := RX0) (T := TX0) (N := 8) (n := 8) htg i_X0 (hts _ (lw_wi 333 (by decide +kernel)))
  obtain ⟨c1, i1, hk1⟩ := u_known (C := RX1) (T := TX1) (N := 6) (n := 6) htg i_X1 (hts _ (lw_wi 374 (by decide +kernel)))
  obtain ⟨c2, i2, hk2⟩ := u_known (C := RX2) (T := TX2) (N := 17) (n := 17) htg i_X2 (hts _ (lw_wi 367 (by decide +kernel)))
  obtain ⟨c3, i3, hk3⟩ := u_known (C := RX3) (T := TX3) (N := 6) (n := 6) htg i_X3 (hts _ (lw_wi 247 (by decide +kernel)))
  obtain ⟨c4, i4, hk4⟩ := u_known (C := RX4) (T := TX4) (N := 12) (n := 12) htg i_X4 (hts _ (lw_wi 273 (by decide +kernel)))
  obtain ⟨c5, i5, hk5⟩ := u_known (C := RX5) (T := TX5) (N := 14) (n := 14) htg i_X5 (hts _ (lw_wi 462 (by decide +kernel)))
  obtain ⟨c6, i6, hk6⟩ := u_known (C := RX6) (T := TX6) (N := 7) (n := 7) htg i_X6 (hts _ (lw_wi 153 (by decide +kernel)))
  obtain ⟨c7, i7, hk7⟩ := u_known (C := RX7) (T := TX7) (N := 14) (n := 14) htg i_X7 (hts _ (lw_wi 792 (by decide +kernel)))
  obtain ⟨c8, i8, hk8⟩ := u_known (C := RX8) (T := TX8) (N := 13) (n := 13) htg i_X8 (hts _ (lw_wi 145 (by decide +kernel)))
  obtain ⟨c9, i9, hk9⟩ := u_known (C := RX9) (T := TX9) (N := 108) (n := 108) htg i_X9 (hts _ (lw_wi 1392 (by decide +kernel)))
  obtain ⟨t0, ha0⟩ := lw_arr (ty := .char) rfl (hts _ (lw_wi 242 (by decide +kernel))) (fun c h => h)
  obtain ⟨t1, ha1⟩ := lw_arr (ty := .int) rfl (hts _ (lw_wi 243 (by decide +kernel))) (fun c h => h)
  obtain ⟨t2, ha2⟩ := lw_arr (ty := .long) rfl (hts _ (lw_wi 244 (by decide +kernel))) (fun c h => h)
  obtain ⟨t3, ha3⟩ := lw_arr (ty := .boolean) rfl (hts _ (lw_wi 867 (by decide +kernel))) (fun c h => h)
  have hao4 : (Cond.arrayOver (.object "StationStarter$Frame")).before #[Value.ref b] s = true := hts _ (lw_wi 373 (by decide +kernel))
  obtain ⟨t4, ha4⟩ := lw_ao hao4
  have hao5 : (Cond.arrayOver (.object "StationStarter$Unit")).before #[Value.ref b] s = true := hts _ (lw_wi 471 (by decide +kernel))
  obtain ⟨t5, ha5⟩ := lw_ao hao5
  obtain ⟨adK, adV, hvs, hev⟩ := vk_Sof (A := fun q => s.heap.size ≤ q) (N := strN) (tm := stT) (len := strL) (byt := strB) sl_N (fun i hi => hfl _ (sl_ex i hi)) (fun i hi => hfl _ (sl_co i hi)) (fun i hi => hfl _ (sl_ar i hi)) (fun i hi => hfl _ (sl_le i hi)) (fun i hi j hj => hfl _ (lw_fi _ (sl_el i hi j hj))) (fun i j hi hj hij => (sl_ne i hi j hj hij).imp (fun z => hfl _ (List.mem_filter.mp z).1) (fun z => hfl _ (List.mem_filter.mp z).1)) hA
  have hthr : (Cond.initialized "java/lang/Throwable").before #[Value.ref b] s = true := hts _ (lw_wi 136 (by decide +kernel))
  have hz1 := vx_Zqof (A := fun q => s.heap.size ≤ q) (C := Bundle.tN) (n := "UNASSIGNED_STACK") (d := Bundle.steD) (hts _ (lw_wi 718 (by decide +kernel))) hthr (hfl _ (lw_fi 9 (by decide +kernel))) hA
  have hz2 := vx_Zqof (A := fun q => s.heap.size ≤ q) (C := Bundle.tN) (n := "SUPPRESSED_SENTINEL") (d := Bundle.listD) (hts _ (lw_wi 720 (by decide +kernel))) hthr (hfl _ (lw_fi 10 (by decide +kernel))) hA
  have hz3 := va_Zof (A := fun q => s.heap.size ≤ q) (C := "java/lang/String") (n := "COMPACT_STRINGS") (d := "Z") (v := .int 1) (hts _ (lw_wi 168 (by decide +kernel))) (hts _ (lw_wi 123 (by decide +kernel))) (va_eqi (hfl _ (lw_fi 4 (by decide +kernel)))) hA
  have hz4 := va_Zqof (A := fun q => s.heap.size ≤ q) (C := "jdk/internal/util/Preconditions") (n := "SIOOBE_FORMATTER") (d := "Ljava/util/function/BiFunction;") (hts _ (lw_wi 184 (by decide +kernel))) (hts _ (lw_wi 125 (by decide +kernel))) (hfl _ (lw_fi 5 (by decide +kernel))) hA
  obtain ⟨pf, hz5⟩ : ∃ pf : Option Nat, va_Z "jdk/internal/util/Preconditions" "SIOOBE_FORMATTER" "Ljava/util/function/BiFunction;" (va_rf pf) (fun q => s.heap.size ≤ q) s s.heap := by
    rcases hz4 with h | ⟨t, h⟩
    · exact ⟨none, h⟩
    · exact ⟨some t, h⟩
  refine ⟨(((fun k => if k = 0 then c0 else if k = 1 then c1 else if k = 2 then c2 else if k = 3 then c3 else if k = 4 then c4 else if k = 5 then c5 else if k = 6 then c6 else if k = 7 then c7 else if k = 8 then c8 else c9, fun k => if k = 0 then i0 else if k = 1 then i1 else if k = 2 then i2 else if k = 3 then i3 else if k = 4 then i4 else if k = 5 then i5 else if k = 6 then i6 else if k = 7 then i7 else if k = 8 then i8 else i9), fun k => if k = 0 then t0 else if k = 1 then t1 else if k = 2 then t2 else if k = 3 then t3 else if k = 4 then t4 else t5), s.heap.size, adK, adV, pf), rfl, ⟨fun k q hq => ?_, fun k q hq => ?_⟩, fun w hw => ?_, hvs, fun q hq => ?_, hz1, hz2, hz3, hz5, hao4, hao5⟩
  · match k, hq with
    | 0, hq => cases hq; exact hk0
    | 1, hq => cases hq; exact hk1
    | 2, hq => cases hq; exact hk2
    | 3, hq => cases hq; exact hk3
    | 4, hq => cases hq; exact hk4
    | 5, hq => cases hq; exact hk5
    | 6, hq => cases hq; exact hk6
    | 7, hq => cases hq; exact hk7
    | 8, hq => cases hq; exact hk8
    | 9, hq => cases hq; exact hk9
    | k + 10, hq => simp [vwCl] at hq
  · match k, hq with
    | 0, hq => cases hq; exact ha0
    | 1, hq => cases hq; exact ha1
    | 2, hq => cases hq; exact ha2
    | 3, hq => cases hq; exact ha3
    | 4, hq => cases hq; exact ha4
    | 5, hq => cases hq; exact ha5
    | k + 6, hq => simp [dT] at hq
  · exact va_tabs (nw_on hw) rfl (hts w (List.mem_filter.mp hw).1)
  · have hm : q = ("StationStarter$Tape", 36, 0) ∨ q = ("StationStarter$Tape", 68, 1) ∨ q = ("StationStarter$Reader", 75, 2) ∨ q = ("StationStarter", 242, 3) ∨ q = ("StationStarter", 271, 4) ∨ q = ("StationStarter", 273, 5) ∨ q = ("StationStarter", 301, 6) ∨ q = ("StationStarter", 303, 7) ∨ q = ("StationStarterModel", 34, 0) := by simpa [strR] using hq
    rcases hm with rfl | rfl | rfl | rfl | rfl | rfl | rfl | rfl | rfl
    · exact vk_R.of (hts _ (lw_wi 158 (by decide +kernel))) (hev 0 (by decide))
    · exact vk_R.of (hts _ (lw_wi 615 (by decide +kernel))) (hev 1 (by decide))
    · exact vk_R.of (hts _ (lw_wi 731 (by decide +kernel))) (hev 2 (by decide))
    · exact vk_R.of (hts _ (lw_wi 1356 (by decide +kernel))) (hev 3 (by decide))
    · exact vk_R.of (hts _ (lw_wi 1363 (by decide +kernel))) (hev 4 (by decide))
    · exact vk_R.of (hts _ (lw_wi 1371 (by decide +kernel))) (hev 5 (by decide))
    · exact vk_R.of (hts _ (lw_wi 1379 (by decide +kernel))) (hev 6 (by decide))
    · exact vk_R.of (hts _ (lw_wi 1380 (by decide +kernel))) (hev 7 (by decide))
    · exact vk_R.of (hts _ (lw_wi 1399 (by decide +kernel))) (va_eqR (hfl _ (lw_fi 488 (by decide +kernel))) (hev 0 (by decide)))
