/-! every call of a script, and the whole of it -/
section ALLC
variable {z b st nd nu nm : Nat} {K K' : Ka} {M M' : Cm} {S S' : Ms}
theorem HOB.up {A B : Nat} (h : HOB A S) (hAB : A ≤ B) : HOB B S := by
  obtain ⟨x, y, p1, p2, p3, p4⟩ := h
  exact ⟨x, y, p1, p2, by omega, by omega⟩
theorem HOB.ag {B : Nat} (h : HOB B S) (h1 : mF S' 79 = mF S 79) (h2 : mF S' 84 = mF S 84) : HOB B S' := by
  obtain ⟨x, y, p1, p2, p3, p4⟩ := h
  exact ⟨x, y, h1.trans p1, h2.trans p2, p3, p4⟩
/-- what j calls may have come to -/
def hbB (j : Nat) (S : Ms) : Nat := j * 1000000 + if mF S 64 = 0 then 0 else 24000000
theorem hbB_eq (j : Nat) (h : mF S' 64 = mF S 64) : hbB j S' = hbB j S := by unfold hbB; rw [h]
theorem hbB_s (j : Nat) (S : Ms) : hbB (j + 1) S = hbB j S + 1000000 := by unfold hbB; omega
theorem hbB_le (j : Nat) (S : Ms) : hbB j S ≤ j * 1000000 + 24000000 := by unfold hbB; split <;> omega
/-- what stands behind j calls -/
def INV (z j : Nat) (K : Ka) (M : Cm) (S : Ms) : Prop := (∃ b st nd nu nm, RelP z K M S b st nd nu nm ∧ RV z b st nd nu nm K M S ∧ HOB (hbB j S) S) ∧ z + 174 ≤ kz K ∧ kz K ≤ z + 174 + 261 * j ∧ ku K ≤ 140000 + 12006 * j
theorem INV.sm {j : Nat} (w : z + 174 ≤ kz K ∧ kz K ≤ z + 174 + 261 * j ∧ ku K ≤ 140000 + 12006 * j) (h : RelP z K M' S' b st nd nu nm) (rv : RV z b st nd nu nm K M' S') (hb : HOB (hbB (j + 1) S') S') : INV z (j + 1) K M' S' := ⟨⟨b, st, nd, nu, nm, h, rv, hb⟩, by omega, by omega, by omega⟩
theorem INV.q {j : Nat} (w : z + 174 ≤ kz K ∧ kz K ≤ z + 174 + 261 * j ∧ ku K ≤ 140000 + 12006 * j) (h : RelP z K M S b st nd nu nm) (rv : RV z b st nd nu nm K M S) (hb : HOB (hbB j S) S) : INV z (j + 1) K M (pF S 0 0) :=
  INV.sm w (h.thr 0) (rv.t0 h 0) (by rw [hbB_eq (S := S) _ (by rw [mF_F, if_neg (by decide)]), hbB_s]; exact (hb.up (by omega)).ag (by rw [mF_F, if_neg (by decide)]) (by rw [mF_F, if_neg (by decide)]))
theorem INV.f {j : Nat} (w : z + 174 ≤ kz K ∧ kz K ≤ z + 174 + 261 * j ∧ ku K ≤ 140000 + 12006 * j) (h : RelP z K M S b st nd nu nm) (rv : RV z b st nd nu nm K M S) (hb : HOB (hbB j S) S) (h' : RelP z K M' S' b st nd nu nm) (f : FRQ z M M' S S') : INV z (j + 1) K M' S' :=
  INV.sm w h' (rv.frq h f) (by rw [hbB_eq (S := S) _ (f.2.1 64 (by omega)), hbB_s]; exact (hb.up (by omega)).ag (f.2.1 79 (by omega)) (f.2.1 84 (by omega)))
theorem INV.h {j : Nat} (w : z + 174 ≤ kz K ∧ kz K ≤ z + 174 + 261 * j ∧ ku K ≤ 140000 + 12006 * j) (h : RelP z K M S b st nd nu nm) (rv : RV z b st nd nu nm K M S) (hb : HOB (hbB j S) S) (h' : RelP z K M' S' b st nd nu nm) (f : HLF z 0 M M' S S') : INV z (j + 1) K M' S' :=
  INV.sm w h' (rv.hlf h f) (by rw [hbB_eq (S := S) _ (f.2.1.1 64 (by omega)), hbB_s]; exact (hb.up (by omega)).ag (f.2.1.1 79 (by omega)) (f.2.1.1 84 (by omega)))
theorem INV.o {j : Nat} (w : z + 174 ≤ kz K ∧ kz K ≤ z + 174 + 261 * j ∧ ku K ≤ 140000 + 12006 * j) (h : RelP z K M S b st nd nu nm) (rv : RV z b st nd nu nm K M S) (hb : HOB (hbB j S) S) {o : Ka × Cm × Ms} (h' : RelP z o.1 o.2.1 o.2.2 b st nd nu nm) (f : OUTK z K M S o) : INV z (j + 1) o.1 o.2.1 o.2.2 := by
  have rv' := rv.outk h f
  have hs : ∃ w, o.2.2 = pF S 0 w := by rcases f with ⟨-, -, w⟩ | ⟨-, -, w⟩ <;> exact w
  obtain ⟨x, hs⟩ := hs
  have hb' : HOB (hbB (j + 1) o.2.2) o.2.2 := by
    rw [hs, hbB_eq (S := S) _ (by rw [mF_F, if_neg (by decide)]), hbB_s]
    exact (hb.up (by omega)).ag (by rw [mF_F, if_neg (by decide)]) (by rw [mF_F, if_neg (by decide)])
  obtain ⟨w1, w2, w3⟩ := w
  refine ⟨⟨b, st, nd, nu, nm, h', rv', hb'⟩, ?_⟩
  rcases f with ⟨e, -, -⟩ | ⟨e, -, -⟩
  · rw [e]
    omega
  · rw [e]
    show z + 174 ≤ kz K + 1 ∧ kz K + 1 ≤ _ ∧ ku K + 6 ≤ _
    omega
theorem INV.id {j : Nat} (h : INV z j K M S) : INV z (j + 1) K M S := by
  obtain ⟨⟨b, st, nd, nu, nm, h, rv, hb⟩, w⟩ := h
  exact INV.sm w h rv (by rw [hbB_s]; exact hb.up (by omega))
theorem sm_i {N z a3 j : Nat} {xs : Nat → Int32} {p : Prop} [Decidable p] {A B : Option (Ka × Cm × Ms)} (hA : ∃ o : Ka × Cm × Ms, A = some o ∧ INV z j o.1 o.2.1 o.2.2) (hB : ∃ o : Ka × Cm × Ms, B = some o ∧ INV z j o.1 o.2.1 o.2.2) : ∃ o : Ka × Cm × Ms, (if p then A else B) = some o ∧ INV z j o.1 o.2.1 o.2.2 := by
  by_cases hp : p
  · rw [if_pos hp]; exact hA
  · rw [if_neg hp]; exact hB
/-- one call, whichever -/
theorem step_ok {j N : Nat} (h : INV z j K M S) (hj : j ≤ 511) (hN : 1000000 < N) (xs : Nat → Int32) (x4 : Int32) : ∃ o : Ka × Cm × Ms, fStep N z (z + 173) xs x4 K M S = some o ∧ INV z (j + 1) o.1 o.2.1 o.2.2 := by
  have hid := h.id
  obtain ⟨⟨b, st, nd, nu, nm, h, rv, hb⟩, w⟩ := h
  have hb1 := hbB_le j S
  have Q : ∀ {A : Option (Ka × Cm × Ms)}, A = some (K, M, pF S 0 0) → ∃ o : Ka × Cm × Ms, A = some o ∧ INV z (j + 1) o.1 o.2.1 o.2.2 := fun e => ⟨_, e, INV.q w h rv hb⟩
  have F : ∀ {A : Option (Ka × Cm × Ms)}, (∃ M' S', A = some (K, M', S') ∧ RelP z K M' S' b st nd nu nm ∧ FRQ z M M' S S') → ∃ o : Ka × Cm × Ms, A = some o ∧ INV z (j + 1) o.1 o.2.1 o.2.2 := fun ⟨_, _, e, h', f⟩ => ⟨_, e, INV.f w h rv hb h' f⟩
  have O : ∀ {A : Option (Ka × Cm × Ms)}, (∃ o : Ka × Cm × Ms, A = some o ∧ RelP z o.1 o.2.1 o.2.2 b st nd nu nm ∧ OUTK z K M S o) → ∃ o : Ka × Cm × Ms, A = some o ∧ INV z (j + 1) o.1 o.2.1 o.2.2 := fun ⟨_, e, h', f⟩ => ⟨_, e, INV.o w h rv hb h' f⟩
  unfold fStep
  refine sm_i (N := N) (z := z) (a3 := 0) (xs := xs) (F (g_feed h N (by omega) _ _ _ _ _ _)) ?_
  refine sm_i (N := N) (z := z) (a3 := 0) (xs := xs) ?_ ?_
  · obtain ⟨K', M', S', e, hk, k1, k2, -, d⟩ := g_station h rv.1.1 (N := N) (by omega)
    have k3 : kz K ≤ kz K' := hk.1
    have g1 : z + 174 ≤ kz K' ∧ kz K' ≤ z + 174 + 261 * (j + 1) ∧ ku K' ≤ 140000 + 12006 * (j + 1) := by omega
    refine ⟨(K', M', S'), e, ?_, g1⟩
    rcases d with d | d
    · have d79 := d
      obtain ⟨nd', nu', nm', r1, r2⟩ := RV.new w.1 d
      obtain ⟨_, _, _, -, -, -, e1, e2, -⟩ := d79
      exact ⟨_, _, nd', nu', nm', r1, r2, 0, 0, e1, e2, by omega, by omega⟩
    · refine ⟨b, st, nd, nu, nm, d.1, rv.ost d, ?_⟩
      rw [hbB_eq (S := S) _ (d.2.2.1 64 (by omega)), hbB_s]
      exact (hb.up (by omega)).ag (d.2.2.1 79 (by omega)) (d.2.2.1 84 (by omega))
  refine sm_i (N := N) (z := z) (a3 := 0) (xs := xs) (F (g_named h N (by omega) _)) ?_
  refine sm_i (N := N) (z := z) (a3 := 0) (xs := xs) ?_ ?_
  · obtain ⟨M', S', e, r1, r2, r3, r4⟩ := g_demand h rv hb (by omega) hN (xs (x4 + 1 : Int32).toNatClampNeg) (xs (x4 + 2 : Int32).toNatClampNeg)
    exact ⟨_, e, INV.sm w r1 r2 (by rw [hbB_eq (S := S) _ r4, hbB_s]; exact r3)⟩
  refine sm_i (N := N) (z := z) (a3 := 0) (xs := xs) (Q (g_ended h N _)) ?_
  refine sm_i (N := N) (z := z) (a3 := 0) (xs := xs) (F (g_plan h N (by omega) _ _)) ?_
  refine sm_i (N := N) (z := z) (a3 := 0) (xs := xs) (F (g_clear h N (by omega))) ?_
  refine sm_i (N := N) (z := z) (a3 := 0) (xs := xs) ?_ ?_
  · obtain ⟨M', S', e, r1, r2⟩ := g_heal h N (by omega) (xs (x4 + 1 : Int32).toNatClampNeg)
    exact ⟨_, e, INV.h w h rv hb r1 r2⟩
  refine sm_i (N := N) (z := z) (a3 := 0) (xs := xs) ?_ ?_
  · obtain ⟨M', S', e, r1, r2, r3⟩ := g_close h rv hb (by omega) hN
    refine ⟨_, e, INV.sm w r1 r2 ?_⟩
    rcases r3 with ⟨r3, r4, r5⟩ | ⟨r3, r4, r5⟩
    · rw [hbB_eq (S := S) _ r5, hbB_s]
      exact r4.up (by omega)
    · refine r4.up ?_
      unfold hbB
      rw [r3, r5, if_pos rfl, if_neg (by decide)]
      omega
  refine sm_i (N := N) (z := z) (a3 := 0) (xs := xs) (F (g_beat h N (by omega) _)) ?_
  refine sm_i (N := N) (z := z) (a3 := 0) (xs := xs) ?_ ?_
  · obtain ⟨M', S', e, r1, r2, r3, r4⟩ := g_foresee h rv hb (by omega) hN (xs (x4 + 1 : Int32).toNatClampNeg) (xs (x4 + 2 : Int32).toNatClampNeg)
    exact ⟨_, e, INV.sm w r1 r2 (by rw [hbB_eq (S := S) _ r4, hbB_s]; exact r3.up (by omega))⟩
  refine sm_i (N := N) (z := z) (a3 := 0) (xs := xs) (Q (g_foreseen h N _)) ?_
  refine sm_i (N := N) (z := z) (a3 := 0) (xs := xs) (O (g_unit h N _ _)) ?_
  refine sm_i (N := N) (z := z) (a3 := 0) (xs := xs) (O (g_read h N (by omega) _ _)) ?_
  refine sm_i (N := N) (z := z) (a3 := 0) (xs := xs) (Q (g_cause h N _ _)) ?_
  refine sm_i (N := N) (z := z) (a3 := 0) (xs := xs) (Q (g_need h N _ _)) ?_
  refine sm_i (N := N) (z := z) (a3 := 0) (xs := xs) (Q (g_leans h N _ _)) ?_
  refine sm_i (N := N) (z := z) (a3 := 0) (xs := xs) (Q (g_up h N _ _)) ?_
  refine sm_i (N := N) (z := z) (a3 := 0) (xs := xs) (Q (g_half h N _ _)) ?_
  refine sm_i (N := N) (z := z) (a3 := 0) (xs := xs) (Q (g_order h N _ _)) ?_
  refine sm_i (N := N) (z := z) (a3 := 0) (xs := xs) (Q (g_closed h N _ _)) ?_
  refine sm_i (N := N) (z := z) (a3 := 0) (xs := xs) (O (g_device h N _ _)) ?_
  refine sm_i (N := N) (z := z) (a3 := 0) (xs := xs) (Q (g_count h N (by omega) _)) ?_
  exact ⟨_, rfl, hid⟩
theorem INV.rm {j : Nat} (h : INV z j K M S) (hj : j ≤ 512) : rmOK (K00 z) K = true := by
  obtain ⟨-, h1, h2, h3⟩ := h
  unfold rmOK
  refine decide_eq_true ⟨?_, ?_⟩
  · show kz K - z ≤ 601024
    omega
  · show ku K - 0 ≤ 7293034
    omega
/-- the script, to its end -/
theorem law_ok {L N : Nat} (hL : L ≤ 3584) (hN : 1000000 < N) (xs : Nat → Int32) : ∀ (n j : Nat) (K : Ka) (M : Cm) (S : Ms), 513 < n + j → j ≤ 512 → INV z j K M S → fLaw N z (z + 173) L xs (K00 z) n (7 * j) K M S = some () := by
  intro n
  induction n with
  | zero => intro j K M S h1 h2; omega
  | succ n ih =>
    intro j K M S h1 h2 h
    rw [fLaw]
    by_cases hl : L < 7 * j + 7
    · rw [if_pos hl]
    · rw [if_neg hl]
      obtain ⟨o, e, h'⟩ := step_ok h (by omega) hN xs (Int32.ofNat (7 * j))
      rw [e, bs, gd_t (h'.rm (by omega))]
      exact ih (j + 1) o.1 o.2.1 o.2.2 (by omega) (by omega) h'
theorem law_all {L : Nat} (hL : L ≤ 3584) (xs : Nat → Int32) (z : Nat) (sa : Nat → Nat) : ∃ (N n : Nat) (K : Ka) (M : Cm) (a2 a3 : Nat), fInit N sa z = some (K, M, a2, a3) ∧ spl a2 a3 K M ∧ rmOK (K00 z) K = true ∧ fLaw N z a3 L xs (K00 z) n 0 (kCut a2 a3 K) M (sOf a2 M) = some () := by
  obtain ⟨K, M, e, h1, h2, h3⟩ := start (N := 1000001) (by omega) z sa
  refine ⟨1000001, 600, K, M, z + 100, z + 173, e, h1, h2, ?_⟩
  have i := h3
  obtain ⟨-, -, -, -, -, -, -, i8, i9, -, -, i12, -, -⟩ := i
  exact law_ok hL (by omega) xs 600 0 _ _ _ (by omega) (by omega) ⟨⟨_, _, _, _, _, rel_init h3, rv_init h3, 0, 0, i12 79, i12 84, by omega, by omega⟩, by omega, by omega, by omega⟩
end ALLC
