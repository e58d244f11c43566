theorem lw_ret1 {p : Program} {l : Launch} {e : Env} {s : State} {m : MethodId} {below : List Frame} {meth : Method} {c : Code} {b : Nat} (hx : p.tables.exec = Jvm.exec) (hb : c.code = code) (hr : meth.sig.returnType = ret) (hlocks : meth.locks = false) (H : Heap) (ls : Array Slot) : W p l e room_1 s m #[Value.ref b] below meth c H [] 601024 7293034 (lw_Z below #[Value.ref b] s) (F0 m 1062 ls []) := by
  refine lv_iconst (v := 1) hx hb dL_law_1062 (by decide) ?_
  exact lw_ret hx hb hr hlocks dL_law_1063
set_option maxRecDepth 100000 in
set_option maxHeartbeats 4000000 in
/-- the law's walk out of the pure functions -/
theorem whole_walk {p : Program} {e : Env} {s : State} {m : MethodId} {below : List Frame} {meth : Method} {c : Code} (l : Launch) (hlt : l.stackTraces = false) {b L : Nat} {xs : Nat → Int32} (hL : L ≤ 3584) (C0 : lw_At p s m meth c b L xs)
    (hpure : ∀ (z : Nat) (sa : Nat → Nat), ∃ (N n : Nat) (K : Ka) (M : Cm) (a2 a3 : Nat), fInit N sa z = some (K, M, a2, a3) ∧ spl a2 a3 K M ∧ rmOK (K00 z) K = true ∧ fLaw N z a3 L xs (K00 z) n 0 (kCut a2 a3 K) M (sOf a2 M) = some ()) :
    W p l e room_1 s m #[Value.ref b] below meth c s.heap [] 0 0 (lw_Z below #[Value.ref b] s) (entryFrame m ([Value.ref b] : List Value).toArray 7) := by
  obtain ⟨hx, hb, hr, hml, hown, hts, hX, hbl, hlocks, hgv⟩ := id C0
  obtain ⟨x, hxs, hE⟩ := lw_ev hts hgv
  obtain ⟨N, n, K5, M5, a2, a3, hI, hspl, hrm, hlaw⟩ := hpure s.heap.size x.2.2.1
  have hB : ∀ q, AC (K00 s.heap.size) q → lo0 x q := fun q z => by
    rcases z with z | z
    · exact absurd rfl z
    · show x.2.1 ≤ q
      rw [hxs]; exact z
  have CX : CC p s m #[Value.ref b] meth c x (K00 s.heap.size) RL code 7 ret := ⟨hx, hb, hml, hown, fun w hw => hts w (List.mem_filter.mp hw).1, hE, hB, hr, hlocks⟩
  have hbA : ¬ AC (K00 s.heap.size) b := fun z => by
    rcases z with z | z
    · exact absurd rfl z
    · exact absurd hbl (Nat.not_lt.mpr z)
  have C : CL p l s m meth c x (K00 s.heap.size) b L xs := ⟨CX, hlt, rfl, hxs, hX, hbl, hbA⟩
  have hl := lv_entry ([.ref b]) (n := 7) (Nat.le_of_ble_eq_true rfl)
  rw [lg_entry_eq]
  generalize (lg_sl ([.ref b]) ++ List.replicate (7 - (lg_sl ([.ref b])).length) Slot.unset).toArray = ls at hl ⊢
  have hl : lv_has ls 7 [(0, .ref b)] := hl
  have hR : RC x (K00 s.heap.size) M00 s.heap := ⟨rfl, by rw [hxs]; exact Nat.le_refl _, fun a ha => absurd rfl ha⟩
  have hS : va_S (AC (K00 s.heap.size)) s.heap s.heap [] := va_S.rf
  have hL0 := KLe.rf (K00 s.heap.size)
  have h0 : kz (K00 s.heap.size) - kz (K00 s.heap.size) = 0 := Nat.sub_self _
  have h0u : ku (K00 s.heap.size) - ku (K00 s.heap.size) = 0 := Nat.sub_self _
  unfold fInit at hI
  obtain ⟨o1, ho1, hI⟩ := bnd_some hI
  obtain ⟨o2, ho2, hI⟩ := bnd_some hI
  have ho1 := inlO_some ho1
  have ho2 := inlO_some ho2
  have m1 : KLe _ o1.1 := mfT_X8_init _ _ _ ho1
  have m2 : KLe _ o2.1 := mfT_X9_init _ _ _ ho2
  have k1 := kNew_le (K00 s.heap.size) 9 0 (cN 8)
  have k2 := kNew_le o1.1 10 0 (cN 9)
  have k3 := kNew_le o2.1 23 1 1
  have hcs : kz K5 - kz (K00 s.heap.size) ≤ 601024 ∧ ku K5 - ku (K00 s.heap.size) ≤ 7293034 := of_decide_eq_true hrm
  have hK5 : K5 = kNew o2.1 23 1 1 := by cases hI; rfl
  have bud : ∀ {K : Ka}, KLe K K5 → kz K - kz (K00 s.heap.size) ≤ room_1.cells ∧ ku K - ku (K00 s.heap.size) ≤ room_1.slots := fun {K} h => by
    obtain ⟨g1, g2, -⟩ := h
    constructor
    · show _ ≤ 601024
      omega
    · show _ ≤ 7293034
      omega
  have l3 : KLe (kNew o2.1 23 1 1) K5 := by rw [hK5]; exact KLe.rf _
  have l2 := k3.tr l3
  have l2' := m2.tr l2
  have l1 := k2.tr l2'
  have l1' := m1.tr l1
  refine W.cs h0.symm h0u.symm ?_
  refine tr_new kc_8 df_8 CX hL0 hR hS cn_L_8 (bud l1') dL_law_0 (fun H hR hS => ?_)
  refine lv_dup hx hb dL_law_3 rfl ?_
  refine ta_callVi CX (hL0.tr k1) hR hS (As := []) (rest := [.ref (kz (K00 s.heap.size))]) (MT_X8_init l x hlt N _ _ _ _ ho1) cj_L_21 ⟨by decide, by decide⟩ rfl (Nat.le_of_ble_eq_true rfl) hl.1 m1 (bud l1) rfl dL_law_4 (fun H locs hR hS => ?_)
  refine lv_astore_n (lv' := [(1, .ref s.heap.size), (0, .ref b)]) hx hb dL_law_7 rfl hl (by decide) rfl (fun ls hl => ?_)
  refine tr_new kc_9 df_9 CX (k1.tr m1) hR hS cn_L_22 (bud l2') dL_law_8 (fun H hR hS => ?_)
  refine lv_dup hx hb dL_law_11 rfl ?_
  refine ta_callVi CX ((k1.tr m1).tr k2) hR hS (As := []) (rest := [.ref (kz o1.1)]) (MT_X9_init l x hlt N _ _ _ _ ho2) cj_L_24 ⟨by decide, by decide⟩ rfl (Nat.le_of_ble_eq_true rfl) hl.1 m2 (bud l2) rfl dL_law_12 (fun H locs hR hS => ?_)
  refine lv_astore_n (lv' := [(2, .ref (kz o1.1)), (1, .ref s.heap.size), (0, .ref b)]) hx hb dL_law_15 rfl hl (by decide) rfl (fun ls hl => ?_)
  refine lv_iconst (v := 1) hx hb dL_law_16 (by decide) ?_
  refine tr_newal CX (((k1.tr m1).tr k2).tr m2) hR hS (by decide) (bud l3) dL_law_17 (fun H hR hS => ?_)
  refine lv_astore_n (lv' := [(3, .ref (kz o2.1)), (2, .ref (kz o1.1)), (1, .ref s.heap.size), (0, .ref b)]) hx hb dL_law_19 rfl hl (by decide) rfl (fun ls hl => ?_)
  refine lv_iconst (v := 0) hx hb dL_law_20 (by decide) ?_
  refine lv_istore (lv' := [(4, .int 0), (3, .ref (kz o2.1)), (2, .ref (kz o1.1)), (1, .ref s.heap.size), (0, .ref b)]) hx hb dL_law_21 hl (by decide) rfl (fun ls hl => ?_)
  cases hI
  have hW := spl_LWd (K := kNew o2.1 23 1 1) hR hspl
  have hLc : KLe (K00 s.heap.size) (kCut (kz o1.1) (kz o2.1) (kNew o2.1 23 1 1)) := by
    obtain ⟨g1, g2, g3⟩ := ((((k1.tr m1).tr k2).tr m2).tr k3)
    refine ⟨g1, g2, fun a ha => g3 a (fun z => ha ?_)⟩
    by_cases hc : kz o1.1 ≤ a ∧ a < kz o2.1
    · simp [kd, kCut, hc]
    · have e : kd (kCut (kz o1.1) (kz o2.1) (kNew o2.1 23 1 1)) a = kd (kNew o2.1 23 1 1) a := by simp [kd, kCut, hc]
      rw [e]; exact z
  have e1 : kz (kNew o2.1 23 (1 : Int32).toNatClampNeg (1 : Int32).toNatClampNeg) - kz (K00 s.heap.size) = kz (kCut (kz o1.1) (kz o2.1) (kNew o2.1 23 1 1)) - kz (K00 s.heap.size) := rfl
  have e2 : ku (kNew o2.1 23 (1 : Int32).toNatClampNeg (1 : Int32).toNatClampNeg) - ku (K00 s.heap.size) = ku (kCut (kz o1.1) (kz o2.1) (kNew o2.1 23 1 1)) - ku (K00 s.heap.size) := rfl
  refine W.cs e1 e2 ?_
  exact wLaw (N := N) (a1 := s.heap.size) (a3 := kz o2.1) (g := gOf (kz o1.1) (mZ o2.2 (kz o2.1))) C hL (lw_ret1 hx hb hr hlocks) n 0 (kCut (kz o1.1) (kz o2.1) (kNew o2.1 23 1 1)) (mZ o2.2 (kz o2.1)) (sOf (kz o1.1) (mZ o2.2 (kz o2.1))) H _ ls (by omega) hrm hlaw hLc hW hS (lv_sub hl [4, 3, 2, 1, 0] rfl)
