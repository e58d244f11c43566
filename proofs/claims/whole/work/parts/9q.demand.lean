/-! a demand read by both -/
section DEMAND
variable {N z b bn sm size t nd nu nm iu : Nat} {K0 K : Ka} {M M' : Cm} {S S' : Ms} {mk mk' : List Mk} {rc cc a v rv dp : Nat}
/-- the class's unit of the text set -/
theorem PT.s4 (h : PT z K M S size t a) (x : Int32) : PT z K (wI M (z + 7) 4 x) S size t a := by
  obtain ⟨h1, h2, h3, h4, h5, h6, h7, h8⟩ := h
  refine ⟨h1, ?_, h3, h4, h5, by rw [cI_w, if_neg (by omega)]; exact h6, by rw [cI_w, if_neg (by omega), cI_wI_ne _ _ _ (by omega)]; exact h7, h8⟩
  unfold TKS TK1 at h2 ⊢
  rw [cI_wI_ne _ _ _ (by omega), cI_wI_ne _ _ _ (by omega), cI_wI_ne _ _ _ (by omega)]
  exact h2
theorem NN.s4 (h : NN z K M S bn sm nd nu nm) (hs : sm ≠ z + 7) (x : Int32) : NN z K (wI M (z + 7) 4 x) S bn sm nd nu nm := by
  unfold NN at h ⊢
  rw [cI_wI_ne _ _ _ hs]
  exact h
theorem LY.c {M M' : Cm} (h : LY z K M) (hR : ∀ q s, q < z + 88 → cR M' q s = cR M q s) : LY z K M' := by
  obtain ⟨h1, h2, h3, h4, h5⟩ := h
  refine ⟨h1, fun t ht => ?_, fun k hk => ?_, h4, h5⟩
  · have := (lyR_lo t ht).1
    rw [hR _ _ (by omega)]; exact h2 t ht
  · obtain ⟨q1, q2, q3, q4, q5⟩ := h3 k hk
    rw [hR _ _ (by omega), hR _ _ (by omega)]
    exact ⟨q1, q2, q3, q4, q5⟩
def dmC (M : Cm) (sm nm : Nat) (x : Int64) (cc : Nat) : Cm := wI (wI (wL M (sm + 8) nm x) (sm + 9) nm (nI cc)) sm 12 (nI (nm + 1))
theorem adm_ok (ks : kd K sm = 6) (hr : RWS K M sm t) (h12 : cI M sm 12 = nI nm) (hl : nm < min ((t + 1) / 4 + 1) 20) (ht : t ≤ 4000) (N : Nat) (x : Int64) (c : Nat) : fC_X5_addDemand N K sm x (nI c) M = some (dmC M sm nm x c) := by
  have r7 := hr.2 7 23 (by decide)
  have r8 := hr.2 8 22 (by decide)
  have e7 : sm + 1 + 7 = sm + 8 := by omega
  have e8 : sm + 1 + 8 = sm + 9 := by omega
  rw [e7] at r7
  rw [e8] at r8
  have cl : (nI nm).toNatClampNeg = nm := nI_clamp (by omega)
  unfold fC_X5_addDemand bC_X5_addDemand_42 dmC
  rw [gd_k ks, nn_s r7.1, gd_k r7.2.1, r7.2.2, h12, if_neg (nI_ge hl (by omega)), nn_s r7.1, gd_k r7.2.1, r7.2.2, ck_n hl (by omega), cl]
  have r8' : cR (wL M (sm + 8) nm x) sm 8 = some (sm + 9) := r8.1
  have i12 : cI (wL M (sm + 8) nm x) sm 12 = nI nm := h12
  rw [nn_s r8', gd_k r8.2.1, r8.2.2, i12, ck_n hl (by omega), cl, cI_wI_ne _ _ _ (show sm ≠ sm + 9 by omega), i12, nI_1]
theorem TS.dds (h : TS z b bn sm size t K0 K M S nd nu nm mk rc cc a) {f : Nat} (hf : FLT f) : DDs b bn rc S f (pF S 8 (nI f)) := ⟨⟨hf, rfl⟩, AgO.pF o8 _, h.2.1.1.2.1, h.1.2.2.2.2.2.1, rc, h.1.2.2.2.2.2.2.1, Nat.le_refl _, fun _ _ _ => rfl⟩
theorem FB.top {α : Type} {n n' : Nat} {c : Option (α ⊕ (Ka × Cm))} {o : Option Ms} (h : FB z b bn K0 M' S' n c o) (hM : AgA z K0 M M') (hS : AgO b S S') (hT : T5 S S') (hn : n ≤ n') : FB z b bn K0 M S n' c o := (h.pre hM hS hT).le hn
/-- what a device, unit, demand ends with -/
def TOd (z b bn sm size t : Nat) (K0 K : Ka) (M : Cm) (S : Ms) (a : Nat) (c : Option ((Ka × Cm) ⊕ (Ka × Cm))) (o : Option Ms) : Prop :=
  (∃ K' M' S' nd' nu' nm' mk' rc' cc' a', c = some (.inl (K', M')) ∧ o = some S' ∧ a < a' ∧ AgA z K0 M M' ∧ AgO b S S' ∧ TS z b bn sm size t K0 K' M' S' nd' nu' nm' mk' rc' cc' a') ∨ FB z b bn K0 M S 9000 c o
/-- the reference behind a demand's name -/
def dmS (S : Ms) (bn nm a rc : Nat) (x : Int64) : Ms := pA (pF (pF (pL (pF S 7 (nI (a + 2))) 36 (20 * bn + nm) x) 49 (-1)) 50 0) 37 (20 * bn + nm) (nI (10000 * bn + rc))
theorem p_demand (h : TS z b bn sm size t K0 K M S nd nu nm mk rc cc a) (hk : cI M (z + 3) a = 138) (hN : 4010 < N) : TOd z b bn sm size t K0 K M S a (fT_X3_readDemand N (z + 7) K M) (fM_toldDemand N S) := by
  obtain ⟨⟨e, p, c, dd, l, h42, h38, hlast⟩, ⟨n, pu, dv, rw, dvd, dmd, und⟩, bud1, bud2, bud3, bud4⟩ := id h
  obtain ⟨n1, n2, n3, n4, n5, n6, n7, n8, n9, n10, n11, n12, n13, n14, n15, n16⟩ := id n
  have hz : z + 174 ≤ sm := by have := e.2.2.1; have := e.2.2.2.1; omega
  have ht : t ≤ 4000 := by have := p.2.1.1; have := p.2.1.2.1; omega
  have hl : a < t := p.lt (by rw [hk]; decide)
  have k7 : kd K (z + 7) = 4 := p.1.k 7 4 0 rfl
  have b2 : bn < 2 := by omega
  have bd := kR_bud n6 S bn
  have hrc : rc ≤ cc := dd.le
  have e20 : (20 : Int32) * nI bn + nI nm = nI (20 * bn + nm) := by rw [e20b, nI_add]
  have ref0 : fM_toldDemand N S = (if nI nm = 20 then ((fM_wrong N 5 S).bind fun o34 => some o34) else ((fM_newName N (pF S 7 (nI (a + 1)))).bind fun o54 => ck (nI (20 * bn + nm)) 40 (ck (nI (20 * bn + nm)) 40 ((fG_block N (pA (pF (pF (pL o54.2 36 (20 * bn + nm) o54.1) 49 (-1)) 50 0) 37 (20 * bn + nm) ((mF (pF (pF (pL o54.2 36 (20 * bn + nm) o54.1) 49 (-1)) 50 0) 42) + (mF (pF (pF (pL o54.2 36 (20 * bn + nm) o54.1) 49 (-1)) 50 0) 38)))).bind fun o84 => (fM_emit N 0 0 0 o84).bind fun o91 => ck (mF o91.2 12) 2 (ck (mF o91.2 12) 2 (some (pA o91.2 35 (mF o91.2 12 : Int32).toNatClampNeg ((mA o91.2 35 (mF o91.2 12 : Int32).toNatClampNeg) + 1)))))))) := by
    by_cases q : nm < 20
    · unfold fM_toldDemand
      rw [n2, ck_n b2 (by decide), ck_n b2 (by decide), nI_clamp (show bn < 2 ^ 31 by omega), n13, e20, nI_clamp (show 20 * bn + nm < 2 ^ 31 by omega), p.2.2.2.1, nI_1]
    · unfold fM_toldDemand
      rw [n2, ck_n b2 (by decide), ck_n b2 (by decide), nI_clamp (show bn < 2 ^ 31 by omega), n13, e20, nI_clamp (show 20 * bn + nm < 2 ^ 31 by omega), p.2.2.2.1, nI_1]
  have cls0 : fT_X3_readDemand N (z + 7) K M = (if nI nm < 20 then ((bT_X3_readDemand_17 N) (z + 7) K M) else (tb (fT_X3_refuse N (z + 7) 5 K M) fun o14 => (bT_X3_readDemand_17 N) (z + 7) o14.1 o14.2)) := by
    unfold fT_X3_readDemand
    rw [gd_k k7, nn_s n3, gd_k n4, n12]
  rw [cls0, ref0]
  by_cases hnm : nm < 20
  · rw [if_pos (show nI nm < 20 from nI_lt (b := 20) hnm (by decide)), if_neg (show ¬ nI nm = 20 from fun q => by have := (nI_eq (b := 20) (by omega) (by decide)).mp q; omega)]
    have p1 := (p.mv (j := a + 1) (by omega)).s4 (-1)
    have hn1 := (n.mv (by omega) (a + 1) (nI (a + 1))).s4 (by omega) (-1)
    have ck40 : ∀ {ρ : Type} (q : Option ρ), ck (nI (20 * bn + nm)) 40 q = q := fun q => ck_n (by omega) (by decide)
    have c17 : bT_X3_readDemand_17 N (z + 7) K M = tb (fT_X3_takeNewName N (z + 7) K (wI (mv z M (a + 1)) (z + 7) 4 (-1))) fun o37 => (bT_X3_readDemand_40 N) (z + 7) sm o37.1 o37.2.1 o37.2.2 := by
      unfold bT_X3_readDemand_17
      have r71 : cR (wI (mv z M (a + 1)) (z + 7) 4 (-1)) (z + 7) 1 = some sm := n3
      rw [gd_k k7, p.2.2.2.2.2.1, nI_1, mv_ok p.1 p.2.1 N (by omega), bs, nn_s r71]
    rw [c17]
    have ag1 : AgA z K0 M (wI (mv z M (a + 1)) (z + 7) 4 (-1)) := (mv_A (a + 1)).tr ⟨fun a' _ q => ⟨by rw [cI_wI_ne _ _ _ q], rfl⟩, fun _ _ _ _ => rfl⟩
    rcases l_new p1 hn1 N (by omega) with ⟨x, e1, q1, q2, q3, q3b, q3c, q4, q5⟩ | ⟨f, f1, f2, f3⟩
    · have q4' : fT_X3_takeNewName N (z + 7) K (wI (mv z M (a + 1)) (z + 7) 4 (-1)) = some (.inl (x, K, mv z (wI (mv z M (a + 1)) (z + 7) 4 (-1)) (a + 2))) := q4
      have q5' : fM_newName N (pF S 7 (nI (a + 1))) = some (x, pF S 7 (nI (a + 2))) := by rw [← pF_pF S 7 (nI (a + 1)) (nI (a + 2))]; exact q5
      have p2 := p1.mv (j := a + 2) (by omega)
      rw [pF_pF] at p2
      rw [q4', q5', tb_l, bs]
      dsimp only
      rw [ck40, ck40]
      generalize hM2 : mv z (wI (mv z M (a + 1)) (z + 7) 4 (-1)) (a + 2) = M2 at *
      have i2 : ∀ q, q ≠ z + 7 → cI M2 q = cI M q := fun q hq => by rw [← hM2, mv_I _ hq, cI_wI_ne _ _ _ hq, mv_I _ hq]
      have i24 : cI M2 (z + 7) 4 = -1 := by rw [← hM2, mv_o _ (by decide) (by decide), cI_w, if_pos ⟨rfl, rfl⟩]
      have l2 : cL M2 = cL M := by rw [← hM2]; rfl
      have r2 : cR M2 = cR M := by rw [← hM2]; rfl
      have ag2 : AgA z K0 M M2 := ⟨fun q _ hq => ⟨i2 q hq, by rw [l2]⟩, fun q s _ _ => by rw [r2]⟩
      have rw2 : RWS K M2 sm t := by unfold RWS; rw [r2]; exact rw
      have hroom : nm < min ((t + 1) / 4 + 1) 20 := by omega
      have ad := adm_ok (M := M2) n4 rw2 (by rw [i2 sm (by omega)]; exact n12) hroom ht N x cc
      have i13 : cI M2 sm 13 = nI cc := by rw [i2 sm (by omega)]; exact c.2.2.2.2.2.2.2.1
      have i3 : ∀ q, q ≠ z + 7 → q ≠ sm → q ≠ sm + 9 → cI (dmC M2 sm nm x cc) q = cI M q := fun q h1 h2 h3 => by unfold dmC; rw [cI_wI_ne _ _ _ h2, cI_wI_ne _ _ _ h3]; exact i2 q h1
      have i37 : ∀ s, cI (dmC M2 sm nm x cc) (z + 7) s = cI M2 (z + 7) s := fun s => by unfold dmC; rw [cI_wI_ne _ _ _ (by omega), cI_wI_ne _ _ _ (by omega)]; rfl
      have i3s : ∀ s, cI (dmC M2 sm nm x cc) sm s = if s = 12 then nI (nm + 1) else cI M sm s := fun s => by
        unfold dmC
        rw [cI_w]
        by_cases w : s = 12
        · rw [if_pos ⟨rfl, w⟩, if_pos w]
        · rw [if_neg (fun y => w y.2), if_neg w, cI_wI_ne _ _ _ (by omega)]; exact congrFun (i2 sm (by omega)) s
      have i39 : ∀ s, cI (dmC M2 sm nm x cc) (sm + 9) s = if s = nm then nI cc else cI M (sm + 9) s := fun s => by
        unfold dmC
        rw [cI_wI_ne _ _ _ (by omega), cI_w]
        by_cases w : s = nm
        · rw [if_pos ⟨rfl, w⟩, if_pos w]
        · rw [if_neg (fun y => w y.2), if_neg w]; exact congrFun (i2 (sm + 9) (by omega)) s
      have l3 : ∀ q, q ≠ sm + 8 → cL (dmC M2 sm nm x cc) q = cL M q := fun q hq => by unfold dmC; rw [cL_I, cL_I, cL_wL_ne _ _ _ hq, l2]
      have l38 : ∀ s, cL (dmC M2 sm nm x cc) (sm + 8) s = if s = nm then x else cL M (sm + 8) s := fun s => by
        unfold dmC
        rw [cL_I, cL_I, cL_w, l2]
        by_cases w : s = nm
        · rw [if_pos ⟨rfl, w⟩, if_pos w]
        · rw [if_neg (fun y => w y.2), if_neg w]
      have r3 : cR (dmC M2 sm nm x cc) = cR M := r2
      have ag3 : AgA z K0 M (dmC M2 sm nm x cc) := ⟨fun q h1 hq => by have := e.2.2.2.1; exact ⟨i3 q hq (by omega) (by omega), l3 q (by omega)⟩, fun q s _ _ => by rw [r3]⟩
      generalize hM3 : dmC M2 sm nm x cc = M3 at *
      -- the reference
      have hS3 : pA (pF (pF (pL (pF S 7 (nI (a + 2))) 36 (20 * bn + nm) x) 49 (-1)) 50 0) 37 (20 * bn + nm) ((mF (pF (pF (pL (pF S 7 (nI (a + 2))) 36 (20 * bn + nm) x) 49 (-1)) 50 0) 42) + (mF (pF (pF (pL (pF S 7 (nI (a + 2))) 36 (20 * bn + nm) x) 49 (-1)) 50 0) 38)) = dmS S bn nm a rc x := by
        have x42 : mF (pF (pF (pL (pF S 7 (nI (a + 2))) 36 (20 * bn + nm) x) 49 (-1)) 50 0) 42 = nI (10000 * bn) := h42
        have x38 : mF (pF (pF (pL (pF S 7 (nI (a + 2))) 36 (20 * bn + nm) x) 49 (-1)) 50 0) 38 = nI rc := h38
        rw [x42, x38, nI_add]
        rfl
      rw [hS3]
      have aS3 : ∀ k, k ≠ 37 → mA (dmS S bn nm a rc x) k = mA S k := fun k hk => by unfold dmS; rw [mA_Ane _ _ _ hk]; rfl
      have a37 : ∀ i, mA (dmS S bn nm a rc x) 37 i = if i = 20 * bn + nm then nI (10000 * bn + rc) else mA S 37 i := fun i => by
        unfold dmS
        rw [mA_A]
        by_cases w : i = 20 * bn + nm
        · rw [if_pos ⟨rfl, w⟩, if_pos w]
        · rw [if_neg (fun y => w y.2), if_neg w]; rfl
      have lS3 : ∀ k, k ≠ 36 → mL (dmS S bn nm a rc x) k = mL S k := fun k hk => by
        funext i
        show mL (pL (pF S 7 (nI (a + 2))) 36 (20 * bn + nm) x) k i = _
        rw [mL_L, if_neg (fun y => hk y.1)]; rfl
      have l36 : ∀ i, mL (dmS S bn nm a rc x) 36 i = if i = 20 * bn + nm then x else mL S 36 i := fun i => by
        show mL (pL (pF S 7 (nI (a + 2))) 36 (20 * bn + nm) x) 36 i = _
        rw [mL_L]
        by_cases w : i = 20 * bn + nm
        · rw [if_pos ⟨rfl, w⟩, if_pos w]
        · rw [if_neg (fun y => w y.2), if_neg w]; rfl
      have agS3 : AgO b S (dmS S bn nm a rc x) := ((((AgO.pF o7 _).tr (AgO.pL (ob_n e.1 e.2.1 (w := 20) rfl (by decide) (by omega) (by omega)) _)).tr (AgO.pF (by unfold OF; omega) _)).tr (AgO.pF (by unfold OF; omega) _)).tr (AgO.pA (ob_n e.1 e.2.1 (w := 20) rfl (by decide) (by omega) (by omega)) _)
      have p3 : PT z K M3 (dmS S bn nm a rc x) size t (a + 2) := by
        have q := ((((p2.sL (k := 36) (by decide) (by decide) (20 * bn + nm) x).pF (k := 49) (by decide) (-1)).pF (k := 50) (by decide) 0).sA (k := 37) (by decide) (by decide) (20 * bn + nm) (nI (10000 * bn + rc)))
        exact q.cst (fun q hq => by rw [i3 q (by omega) (by omega) (by omega), i2 q (by omega)]) (fun s _ => i37 s) (by rw [l3 (z + 5) (by omega), l2]) (by rw [r3, r2])
      have f42 : mF (dmS S bn nm a rc x) 42 = nI (10000 * bn) := h42
      have f38 : mF (dmS S bn nm a rc x) 38 = nI rc := h38
      have f12 : mF (dmS S bn nm a rc x) 12 = nI bn := n2
      have f48 : mF (dmS S bn nm a rc x) 48 = mF S 48 := rfl
      have f49 : mF (dmS S bn nm a rc x) 49 = -1 := rfl
      have f50 : mF (dmS S bn nm a rc x) 50 = 0 := rfl
      generalize hSd : dmS S bn nm a rc x = S3 at *
      have d0 := dv.2.2
      have r0 : cR M sm 0 = some (sm + 1) := (d0 0 23 (by decide)).1
      have r4 : cR M sm 4 = some (sm + 5) := (rw.1 4 23 (by decide)).1
      have r7 : cR M sm 7 = some (sm + 8) := (rw.2 7 23 (by decide)).1
      have nw : NNw z K M3 S3 bn sm nd nu nm := ⟨n1, f12, by rw [r3]; exact n3, n4, n5, n6, n7, by rw [i3s, if_neg (by decide)]; exact n8, by rw [aS3 13 (by decide)]; exact n9, by rw [i3s, if_neg (by decide)]; exact n10, by rw [aS3 18 (by decide)]; exact n11, n14.st r0 (by rw [r3]) (l3 _ (by omega)) (lS3 14 (by decide)), n15.st r4 (by rw [r3]) (l3 _ (by omega)) (lS3 19 (by decide))⟩
      have pu3 : PU K M3 S3 bn sm nu := pu.st (fun q hq => i3 q (by omega) (by omega) (by omega)) (fun q hq => l3 q (by omega)) r3 (fun k _ _ => aS3 k (by omega)) (lS3 26 (by decide))
      have cd3 : CD bn sm nd nu M3 S3 (pmk rc cc :: mk) (0, [], 0) rc cc (a + 2) 0 := dd.pos.q (l3 _ (by omega)) (fun k hk => aS3 k (by omega)) f48 (by omega)
      have cr3 : CR z K M3 sm cc := by
        obtain ⟨y1, y2, y3, y4, y5, y6, y7, y8, y9⟩ := c
        exact ⟨p3.1, y2, by rw [r3]; exact y3, y4, by rw [r3]; exact y5, y6, y7, by rw [i3s, if_neg (by decide)]; exact y8, y9⟩
      obtain ⟨v, hv⟩ : ∃ v, cc + (v + 1) = 2 * (a + 2) := ⟨2 * (a + 2) - cc - 1, by omega⟩
      have ps3 : PS z b bn sm size t nd nu nm 0 (fun _ _ => False) K0 K M3 S3 (pmk rc cc :: mk) (0, [], 0) rc cc (a + 2) (v + 1) 0 0 := ⟨e, ⟨nw, by rw [r3]; exact ⟨r0, r4, r7⟩, pu3, f42, f49, by rw [i37]; exact i24, Nat.zero_le _⟩, p3, cr3, cd3, l.q (i3 _ (by omega) (by omega) (by omega)) (aS3 34 (by decide)), f38, f50, by omega, by omega⟩
      have hB := (sb_ok (N := N) (z := z) (b := b) (bn := bn) (sm := sm) (size := size) (t := t) (nd := nd) (nu := nu) (nm := nm) (iu := 0) (ex := fun _ _ => False) (K0 := K0) (K := K) hN 10 0 rfl).1 150 120 (by omega) (by omega) (by omega)
      unfold bT_X3_readDemand_40
      rw [gd_k k7, nn_s (show cR M2 (z + 7) 1 = some sm by rw [r2]; exact n3), gd_k n4, gd_k n4, i13, ad, bs]
      have eB : fGT_X3_readBlock N (z + 7) 0 K M3 = gB N 150 0 (z + 7) (nI 0) 0 K M3 := rfl
      have eP : fG_block N S3 = gP N 120 0 S3 := rfl
      rw [eB, eP]
      rcases (hB M3 S3 _ [] 0 rc cc (a + 2) v ps3 (by omega) (fun _ => ⟨Nat.zero_le _, Nat.zero_le _, Or.inl rfl⟩)).1 with ⟨M4, S4, rc4, cc4, a4, r4', x1, x2, x3, x4, x5, x6⟩ | q
      · have ht4 := x6.t4
        have hr4 := x6.room
        obtain ⟨h5, f5⟩ := x6.em (x := (0, 0, 0)) (ρ := 90) (by decide) (by decide) (by decide) ⟨⟨by show r4' ≤ 90; omega, by decide⟩, VO.triv (Or.inl rfl), ⟨Nat.zero_le _, Nat.zero_le _⟩, fun _ => ⟨rfl, rfl⟩, fun q => absurd q (by decide), fun q => absurd q (by decide), fun q => absurd q (by decide), fun _ => rfl, Nat.zero_le _, Or.inl rfl⟩
        have f35 := x5.tr f5
        rw [x1, x2, tb_l, bs]
        dsimp only
        unfold bT_X3_readDemand_55 bT_X3_readDemand_63
        rw [gd_k k7, x6.wC N, ta_l, x6.wS N, bs]
        dsimp only
        have y12 : mF (emS S4 (10000 * bn + rc4) rc4 0 0 0) 12 = nI bn := h5.2.1.1.2.1
        have y35 : mA (emS S4 (10000 * bn + rc4) rc4 0 0 0) 35 bn = nI nm := by
          have := f35.2.2.2.2.2.2.1 35 (by decide) (by decide) (by decide)
          have this' : mA (emS S4 (10000 * bn + rc4) rc4 0 0 0) 35 = mA S3 35 := this
          rw [this', aS3 35 (by decide)]; exact n13
        rw [y12, ck_n b2 (by decide), ck_n b2 (by decide), nI_clamp (show bn < 2 ^ 31 by omega), y35, nI_1]
        generalize hM5 : emC M4 sm cc4 (cw bn S4 (0, 0, 0)) = M5 at *
        have hM5' : emC M4 sm cc4 (wd 20 0 0) = M5 := hM5
        have hS5' : emS S4 (10000 * bn + rc4) rc4 (rfd (10000 * bn) (0, 0, 0)).1 (rfd (10000 * bn) (0, 0, 0)).2.1 (rfd (10000 * bn) (0, 0, 0)).2.2 = emS S4 (10000 * bn + rc4) rc4 0 0 0 := rfl
        rw [hS5'] at h5 f35
        rw [hM5']
        generalize hS5 : emS S4 (10000 * bn + rc4) rc4 0 0 0 = S5 at *
        have aP : ∀ k, k ≠ 35 → mA (pA S5 35 bn (nI (nm + 1))) k = mA S5 k := fun k hk => mA_Ane _ _ _ hk
        have h5' : PS z b bn sm size t nd nu nm 0 (fun _ _ => False) K0 K M5 S5 (emk (rc4 + 1) (cc4 + 1) :: pmk rc cc :: mk) (0, [], 0) (rc4 + 1) (cc4 + 1) a4 (v + 2) 0 0 := h5
        obtain ⟨e5, ⟨nw5, rr5, pu5, y42, -, -, -⟩, p5, c5, d5, l5, y38, -, y2a, -⟩ := h5'
        obtain ⟨w1, w2, w3, w4, w5, w6, w7, w8, w9, w10, w11, w14, w15⟩ := nw5
        have k20 : kR (pA S5 35 bn (nI (nm + 1))) bn nu = kR S bn nu := kR_ag (by rw [aP 20 (by decide), f35.2.2.2.2.2.2.1 20 (by decide) (by decide) (by decide), aS3 20 (by decide)]) bn nu
        have mm : ∀ m, m ∈ mk → m ∈ emk (rc4 + 1) (cc4 + 1) :: pmk rc cc :: mk := fun m hm => List.mem_cons_of_mem _ (List.mem_cons_of_mem _ hm)
        have mlt : ∀ m, m ∈ emk (rc4 + 1) (cc4 + 1) :: pmk rc cc :: mk → m.1 < rc4 + 1 ∧ (m.2.2.1.1 = 99 ∨ m.2.2.1.1 < 28) := fun m hm => by
          obtain ⟨-, gg, pg, Jg, g1, g2, g3, g4, -⟩ := x6.2.2.2.2.1
          have hrc4 : rc ≤ rc4 := ((g4 (pmk rc cc) (List.mem_cons_self ..)).2.2 rfl).1
          rcases List.mem_cons.mp hm with y | y
          · rw [y]; exact ⟨by show rc4 + 1 - 1 < rc4 + 1; omega, Or.inr (by show (0 : Nat) < 28; decide)⟩
          · rcases List.mem_cons.mp y with y | y
            · rw [y]; exact ⟨by show rc < rc4 + 1; omega, Or.inl rfl⟩
            · have := hlast.2 m y; exact ⟨by omega, this.2⟩
        left
        refine ⟨K, M5, pA S5 35 bn (nI (nm + 1)), nd, nu, nm + 1, emk (rc4 + 1) (cc4 + 1) :: pmk rc cc :: mk, rc4 + 1, cc4 + 1, a4, rfl, rfl, by omega, ag3.tr f35.2.2.2.2.2.2.2.2.1, (agS3.tr f35.2.2.2.2.2.2.2.2.2).tr (AgO.pA (ob_n e.1 e.2.1 (w := 1) rfl (by decide) (by omega) (by omega)) _), ⟨e5, p5.sA (by decide) (by decide) _ _, c5, d5.q rfl (fun k hk => aP k (by omega)) rfl (Nat.le_refl _), l5.q rfl (aP 34 (by decide)), y42, y38, Or.inr (List.mem_cons_self ..), mlt⟩, ⟨?_, pu5.st (fun _ _ => rfl) (fun _ _ => rfl) rfl (fun k _ _ => aP k (by omega)) rfl, ?_, ?_, ?_, ?_, ?_⟩, by omega, ?_, bud3, bud4⟩
        · refine ⟨w1, w2, w3, w4, w5, w6, by omega, w8, by rw [aP 13 (by decide)]; exact w9, w10, by rw [aP 18 (by decide)]; exact w11, ?_, by rw [mA_A, if_pos ⟨rfl, rfl⟩], w14.st rr5.1 rfl rfl rfl, w15.st rr5.2.1 rfl rfl rfl, ?_⟩
          · rw [f35.2.2.2.2.1 12 (by decide), i3s, if_pos rfl]
          · have n16' := n16.push (M' := M3) (S' := S3) (x := x) r7 (by rw [r3]; exact r7) (by have := (rw.2 7 23 (by decide)).2.2; have e7 : sm + 1 + 7 = sm + 8 := (by omega); rw [e7] at this; omega) l38 l36 q2 q3c
            exact n16'.st (q := sm + 8) (by rw [r3]; exact r7) (by rw [f35.2.2.1]) (f35.2.1 _ (by omega)) (by show mL S5 36 = mL S3 36; rw [f35.2.2.2.2.2.2.2.1])
        · refine ⟨dv.1, dv.2.1, fun sl kind hm => ?_⟩
          rw [f35.2.2.1, r3]; exact dv.2.2 sl kind hm
        · unfold RWS; rw [f35.2.2.1, r3]; exact rw
        · have q1 : DVD M3 S3 bn sm nd := by
            unfold DVD at dvd ⊢
            rw [i3 (sm + 2) (by omega) (by omega) (by omega), i3 (sm + 3) (by omega) (by omega) (by omega), i3 (sm + 4) (by omega) (by omega) (by omega), aS3 15 (by decide), aS3 16 (by decide), aS3 17 (by decide)]
            exact dvd
          have q2 := q1.fr f35 hz
          unfold DVD at q2 ⊢
          rw [aP 15 (by decide), aP 16 (by decide), aP 17 (by decide)]
          exact q2
        · intro d hd
          rw [f35.1 (sm + 9) (by omega) (by omega) (by omega), aP 37 (by decide), f35.2.2.2.2.2.2.1 37 (by decide) (by decide) (by decide), i39, a37]
          by_cases w : d = nm
          · exact ⟨rc, cc, by rw [if_pos w], by rw [if_pos (by omega)], List.mem_cons_of_mem _ (List.mem_cons_self ..)⟩
          · obtain ⟨r, c', y1, y2, y3⟩ := dmd d (by omega)
            exact ⟨r, c', by rw [if_neg w]; exact y1, by rw [if_neg (by omega)]; exact y2, mm _ y3⟩
        · have q1 : UND K M3 S3 bn sm nu mk := und.st (fun q hq => i3 q (by omega) (by omega) (by omega)) r3 (fun k _ _ => aS3 k (by omega)) (fun m hm => hm)
          exact (q1.fr f35 hz mm).st (fun _ _ => rfl) rfl (fun k _ _ => aP k (by omega)) (fun m hm => hm)
        · rw [k20]; omega
      · right
        have q8 := (q.go (β := Ka × Cm) (k := fun o52 => bT_X3_readDemand_55 N (z + 7) o52.1 o52.2) (r := fun o84 => (fM_emit N 0 0 0 o84).bind fun o91 => ck (mF o91.2 12) 2 (ck (mF o91.2 12) 2 (some (pA o91.2 35 (mF o91.2 12 : Int32).toNatClampNeg ((mA o91.2 35 (mF o91.2 12 : Int32).toNatClampNeg) + 1))))) (n' := 9000) (fun f S9 d => by
          obtain ⟨r, S6, g1, g2, g3⟩ := d.em e.1 e.2.1 (by omega) N 0 0 0
          refine ⟨_, ?_, (g3.pA' e.1 e.2.1 (k := 35) (i := bn) (w := 1) rfl (by decide) (by omega) (by omega) (mA S6 35 bn + 1)).le (by omega)⟩
          rw [g2, bs]
          dsimp only
          rw [g3.2.2.1, ck_n b2 (by decide), ck_n b2 (by decide), nI_clamp (show bn < 2 ^ 31 by omega)]))
        exact q8.pre ag3 agS3 (fun k k1 k2 => by rw [← hSd]; unfold dmS; rw [mA_Ane _ _ _ (by omega)]; rfl)
    · right
      have f2' : fT_X3_takeNewName N (z + 7) K (wI (mv z M (a + 1)) (z + 7) 4 (-1)) = some (.inr (K, wI (wI (mv z M (a + 1)) (z + 7) 4 (-1)) (z + 7) 5 (nI f))) := f2
      have f3' : fM_newName N (pF S 7 (nI (a + 1))) = some (mL (pF S 7 (nI (a + 1))) 6 (a + 1), pF (pF (pF S 7 (nI (a + 1))) 8 (nI f)) 7 (nI (a + 1 + 1))) := f3
      rw [f2', tb_r, f3', bs]
      dsimp only
      rw [ck40, ck40]
      have d0 : DDs b bn rc S f (pF (pF (pF S 7 (nI (a + 1))) 8 (nI f)) 7 (nI (a + 1 + 1))) := ⟨⟨f1, rfl⟩, ((AgO.pF o7 _).tr (AgO.pF o8 _)).tr (AgO.pF o7 _), n2, h42, rc, h38, Nat.le_refl _, fun _ _ _ => rfl⟩
      generalize pF (pF (pF S 7 (nI (a + 1))) 8 (nI f)) 7 (nI (a + 1 + 1)) = S1 at *
      have d1 := (((d0.pL' e.1 e.2.1 (k := 36) (i := 20 * bn + nm) (w := 20) rfl (by decide) (by omega) (by omega) (mL (pF S 7 (nI (a + 1))) 6 (a + 1))).p49 (-1)).p50 0)
      have d2 := d1.pA' e.1 e.2.1 (k := 37) (i := 20 * bn + nm) (w := 20) rfl (by decide) (by omega) (by omega) (mF (pF (pF (pL S1 36 (20 * bn + nm) (mL (pF S 7 (nI (a + 1))) 6 (a + 1))) 49 (-1)) 50 0) 42 + mF (pF (pF (pL S1 36 (20 * bn + nm) (mL (pF S 7 (nI (a + 1))) 6 (a + 1))) 49 (-1)) 50 0) 38)
      have eP : ∀ S', fG_block N S' = gP N 120 0 S' := fun _ => rfl
      obtain ⟨r, S6, g1, g2, g3⟩ := d2.em e.1 e.2.1 (by omega) N 0 0 0
      refine ⟨f, K, _, pA S6 35 bn (mA S6 35 bn + 1), f1, rfl, e.2.2.2.2.2.1, ag1.tr ⟨fun a' _ q => ⟨by rw [cI_wI_ne _ _ _ q], rfl⟩, fun _ _ _ _ => rfl⟩, by rw [cI_w, if_pos ⟨rfl, rfl⟩], ?_, (g3.pA' e.1 e.2.1 (k := 35) (i := bn) (w := 1) rfl (by decide) (by omega) (by omega) (mA S6 35 bn + 1)).le (by omega)⟩
      rw [eP, gd0' N (by omega) (by decide) d2.1, bs, g2, bs]
      dsimp only
      rw [g3.2.2.1, ck_n b2 (by decide), ck_n b2 (by decide), nI_clamp (show bn < 2 ^ 31 by omega)]
  · right
    have e20' : nm = 20 := by omega
    obtain ⟨f, f1, f2, f3⟩ := rf_nI p N (w := 5) (by omega) (by omega)
    have f2' : fT_X3_refuse N (z + 7) 5 K M = some (.inr (K, wI M (z + 7) 5 (nI f))) := f2
    have f3' : fM_wrong N 5 S = some (pF S 8 (nI f)) := f3
    rw [if_neg (show ¬ nI nm < 20 from nI_nlt (b := 20) (by omega) (by omega)), if_pos (show nI nm = 20 by rw [e20']; rfl), f2', f3']
    exact ⟨f, K, _, _, f1, rfl, e.2.2.2.2.2.1, ⟨fun a' _ q => ⟨by rw [cI_wI_ne _ _ _ q], rfl⟩, fun _ _ _ _ => rfl⟩, by rw [cI_w, if_pos ⟨rfl, rfl⟩], rfl, ⟨f1, rfl⟩, AgO.pF o8 _, n2, h42, rc, h38, by omega, fun _ _ _ => rfl⟩
/-- a fault, as it stands behind a device, unit, demand -/
def FT {α : Type} (z b : Nat) (K0 : Ka) (M : Cm) (S : Ms) (c : Option (α ⊕ (Ka × Cm))) (o : Option Ms) : Prop := ∃ f K' M' S', FLT f ∧ c = some (.inr (K', M')) ∧ KB K0 K' ∧ AgA z K0 M M' ∧ cI M' (z + 7) 5 = nI f ∧ o = some S' ∧ DS S' f ∧ AgO b S S'
theorem FB.ft {α : Type} {n : Nat} {c : Option (α ⊕ (Ka × Cm))} {o : Option Ms} (h : FB z b bn K0 M S n c o) : FT z b K0 M S c o := by
  obtain ⟨f, K', M', S', h1, h2, h3, h4, h5, h6, h7⟩ := h
  exact ⟨f, K', M', S', h1, h2, h3, h4, h5, h6, h7.1, h7.2.1⟩
def TO (z b bn sm size t : Nat) (K0 : Ka) (M : Cm) (S : Ms) (a : Nat) (c : Option ((Ka × Cm) ⊕ (Ka × Cm))) (o : Option Ms) : Prop :=
  (∃ K' M' S' nd' nu' nm' mk' rc' cc' a', c = some (.inl (K', M')) ∧ o = some S' ∧ a < a' ∧ AgA z K0 M M' ∧ AgO b S S' ∧ TS z b bn sm size t K0 K' M' S' nd' nu' nm' mk' rc' cc' a') ∨ FT z b K0 M S c o
theorem t_demand (h : TS z b bn sm size t K0 K M S nd nu nm mk rc cc a) (hk : cI M (z + 3) a = 138) (hN : 4010 < N) : TO z b bn sm size t K0 M S a (fT_X3_readDemand N (z + 7) K M) (fM_toldDemand N S) := (p_demand h hk hN).elim Or.inl (fun q => Or.inr (FB.ft q))
theorem t_device (h : TS z b bn sm size t K0 K M S nd nu nm mk rc cc a) (hk : cI M (z + 3) a = 128) (hN : 4010 < N) : TO z b bn sm size t K0 M S a (fT_X3_readDevice N (z + 7) K M) (fM_toldDevice N S) := by
  obtain ⟨⟨e, p, c, dd, l, h42, h38, hlast⟩, ⟨n, pu, dv, rw, dvd, dmd, und⟩, bud1, bud2, bud3, bud4⟩ := id h
  obtain ⟨n1, n2, n3, n4, n5, n6, n7, n8, n9, n10, n11, n12, n13, n14, n15, n16⟩ := id n
  have hz : z + 174 ≤ sm := by have := e.2.2.1; have := e.2.2.2.1; omega
  rcases p_device p n dv e.1 e.2.1 hk (by omega) N (by omega) with ⟨x, fr, to, pc, q1, q2, q3, q4, q5, q6, q7, q8, q9, q10⟩ | ⟨f, K', M', f1, f2, f3, f4, f5, S', g1, g2, g3, g4⟩
  · left
    have i3 : ∀ q, q ≠ z + 7 → q ≠ sm → q ≠ sm + 2 → q ≠ sm + 3 → q ≠ sm + 4 → cI (dvC (mv z M (a + 9)) sm nd x fr to pc) q = cI M q := fun q h1 h2 h3 h4 h5 => by unfold dvC; rw [cI_wI_ne _ _ _ h2, cI_wI_ne _ _ _ h5, cI_wI_ne _ _ _ h4, cI_wI_ne _ _ _ h3]; exact mv_I _ h1
    have i37 : ∀ s, cI (dvC (mv z M (a + 9)) sm nd x fr to pc) (z + 7) s = cI (mv z M (a + 9)) (z + 7) s := fun s => by unfold dvC; rw [cI_wI_ne _ _ _ (by omega), cI_wI_ne _ _ _ (by omega), cI_wI_ne _ _ _ (by omega), cI_wI_ne _ _ _ (by omega)]; rfl
    have i3s : ∀ s, cI (dvC (mv z M (a + 9)) sm nd x fr to pc) sm s = if s = 10 then nI (nd + 1) else cI M sm s := fun s => by
      unfold dvC
      rw [cI_w]
      by_cases w : s = 10
      · rw [if_pos ⟨rfl, w⟩, if_pos w]
      · rw [if_neg (fun y => w y.2), if_neg w, cI_wI_ne _ _ _ (by omega), cI_wI_ne _ _ _ (by omega), cI_wI_ne _ _ _ (by omega)]; exact congrFun (mv_I (a + 9) (by omega)) s
    have i32 : ∀ s, cI (dvC (mv z M (a + 9)) sm nd x fr to pc) (sm + 2) s = if s = nd then nI fr else cI M (sm + 2) s := fun s => by
      unfold dvC
      rw [cI_wI_ne _ _ _ (by omega), cI_wI_ne _ _ _ (by omega), cI_wI_ne _ _ _ (by omega), cI_w]
      by_cases w : s = nd
      · rw [if_pos ⟨rfl, w⟩, if_pos w]
      · rw [if_neg (fun y => w y.2), if_neg w]; exact congrFun (mv_I (a + 9) (by omega)) s
    have i33 : ∀ s, cI (dvC (mv z M (a + 9)) sm nd x fr to pc) (sm + 3) s = if s = nd then nI to else cI M (sm + 3) s := fun s => by
      unfold dvC
      rw [cI_wI_ne _ _ _ (by omega), cI_wI_ne _ _ _ (by omega), cI_w]
      by_cases w : s = nd
      · rw [if_pos ⟨rfl, w⟩, if_pos w]
      · rw [if_neg (fun y => w y.2), if_neg w, cI_wI_ne _ _ _ (by omega)]; exact congrFun (mv_I (a + 9) (by omega)) s
    have i34 : ∀ s, cI (dvC (mv z M (a + 9)) sm nd x fr to pc) (sm + 4) s = if s = nd then nI pc else cI M (sm + 4) s := fun s => by
      unfold dvC
      rw [cI_wI_ne _ _ _ (by omega), cI_w]
      by_cases w : s = nd
      · rw [if_pos ⟨rfl, w⟩, if_pos w]
      · rw [if_neg (fun y => w y.2), if_neg w, cI_wI_ne _ _ _ (by omega), cI_wI_ne _ _ _ (by omega)]; exact congrFun (mv_I (a + 9) (by omega)) s
    have l3 : ∀ q, q ≠ sm + 1 → cL (dvC (mv z M (a + 9)) sm nd x fr to pc) q = cL M q := fun q hq => by unfold dvC; rw [cL_I, cL_I, cL_I, cL_I, cL_wL_ne _ _ _ hq]; rfl
    have l31 : ∀ s, cL (dvC (mv z M (a + 9)) sm nd x fr to pc) (sm + 1) s = if s = nd then x else cL M (sm + 1) s := fun s => by
      unfold dvC
      rw [cL_I, cL_I, cL_I, cL_I, cL_w]
      by_cases w : s = nd
      · rw [if_pos ⟨rfl, w⟩, if_pos w]
      · rw [if_neg (fun y => w y.2), if_neg w]; rfl
    have r3 : cR (dvC (mv z M (a + 9)) sm nd x fr to pc) = cR M := rfl
    have p9 := p.mv (j := a + 9) (by omega)
    have p3 : PT z K (dvC (mv z M (a + 9)) sm nd x fr to pc) (dvS S bn nd a x fr to pc) size t (a + 9) := by
      have q := ((((p9.sL (k := 14) (by decide) (by decide) (24 * bn + nd) x).sA (k := 15) (by decide) (by decide) (24 * bn + nd) (nI fr)).sA (k := 16) (by decide) (by decide) (24 * bn + nd) (nI to)).sA (k := 17) (by decide) (by decide) (24 * bn + nd) (nI pc)).sA (k := 13) (by decide) (by decide) bn (nI (nd + 1))
      exact q.cst (fun q hq => by rw [i3 q (by omega) (by omega) (by omega) (by omega) (by omega), mv_I _ (by omega)]) (fun s _ => i37 s) (by rw [l3 (z + 5) (by omega)]; rfl) rfl
    have aS : ∀ k, k ≠ 13 → k ≠ 15 → k ≠ 16 → k ≠ 17 → mA (dvS S bn nd a x fr to pc) k = mA S k := fun k h1 h2 h3 h4 => by unfold dvS; rw [mA_Ane _ _ _ h1, mA_Ane _ _ _ h4, mA_Ane _ _ _ h3, mA_Ane _ _ _ h2]; rfl
    have a13 : mA (dvS S bn nd a x fr to pc) 13 bn = nI (nd + 1) := by unfold dvS; rw [mA_A, if_pos ⟨rfl, rfl⟩]
    have a15 : ∀ i, mA (dvS S bn nd a x fr to pc) 15 i = if i = 24 * bn + nd then nI fr else mA S 15 i := fun i => by
      unfold dvS
      rw [mA_Ane _ _ _ (by decide), mA_Ane _ _ _ (by decide), mA_Ane _ _ _ (by decide), mA_A]
      by_cases w : i = 24 * bn + nd
      · rw [if_pos ⟨rfl, w⟩, if_pos w]
      · rw [if_neg (fun y => w y.2), if_neg w]; rfl
    have a16 : ∀ i, mA (dvS S bn nd a x fr to pc) 16 i = if i = 24 * bn + nd then nI to else mA S 16 i := fun i => by
      unfold dvS
      rw [mA_Ane _ _ _ (by decide), mA_Ane _ _ _ (by decide), mA_A]
      by_cases w : i = 24 * bn + nd
      · rw [if_pos ⟨rfl, w⟩, if_pos w]
      · rw [if_neg (fun y => w y.2), if_neg w, mA_Ane _ _ _ (by decide)]; rfl
    have a17 : ∀ i, mA (dvS S bn nd a x fr to pc) 17 i = if i = 24 * bn + nd then nI pc else mA S 17 i := fun i => by
      unfold dvS
      rw [mA_Ane _ _ _ (by decide), mA_A]
      by_cases w : i = 24 * bn + nd
      · rw [if_pos ⟨rfl, w⟩, if_pos w]
      · rw [if_neg (fun y => w y.2), if_neg w, mA_Ane _ _ _ (by decide), mA_Ane _ _ _ (by decide)]; rfl
    have lS : ∀ k, k ≠ 14 → mL (dvS S bn nd a x fr to pc) k = mL S k := fun k hk => by
      funext i
      show mL (pL (pF S 7 (nI (a + 9))) 14 (24 * bn + nd) x) k i = _
      rw [mL_L, if_neg (fun y => hk y.1)]; rfl
    have l14 : ∀ i, mL (dvS S bn nd a x fr to pc) 14 i = if i = 24 * bn + nd then x else mL S 14 i := fun i => by
      show mL (pL (pF S 7 (nI (a + 9))) 14 (24 * bn + nd) x) 14 i = _
      rw [mL_L]
      by_cases w : i = 24 * bn + nd
      · rw [if_pos ⟨rfl, w⟩, if_pos w]
      · rw [if_neg (fun y => w y.2), if_neg w]; rfl
    have nb : ∀ k w, bw k = w → w ≠ 0 → w = 24 → ¬ OB b k (24 * bn + nd) := fun k w h1 h2 h3 => ob_n e.1 e.2.1 (w := 24) (by rw [h1, h3]) (by decide) (by omega) (by omega)
    have agS : AgO b S (dvS S bn nd a x fr to pc) := (((((AgO.pF o7 _).tr (AgO.pL (nb 14 24 rfl (by decide) rfl) _)).tr (AgO.pA (nb 15 24 rfl (by decide) rfl) _)).tr (AgO.pA (nb 16 24 rfl (by decide) rfl) _)).tr (AgO.pA (nb 17 24 rfl (by decide) rfl) _)).tr (AgO.pA (ob_n e.1 e.2.1 (w := 1) rfl (by decide) (by omega) (by omega)) _)
    have agM : AgA z K0 M (dvC (mv z M (a + 9)) sm nd x fr to pc) := ⟨fun q h1 hq => by have := e.2.2.2.1; exact ⟨i3 q hq (by omega) (by omega) (by omega) (by omega), l3 q (by omega)⟩, fun _ _ _ _ => rfl⟩
    have f12 : mF (dvS S bn nd a x fr to pc) 12 = nI bn := n2
    have f42 : mF (dvS S bn nd a x fr to pc) 42 = nI (10000 * bn) := h42
    have f38 : mF (dvS S bn nd a x fr to pc) 38 = nI rc := h38
    have f48 : mF (dvS S bn nd a x fr to pc) 48 = mF S 48 := rfl
    have dv0 := (dv.2.2 0 23 (by decide))
    have e01 : sm + 1 + 0 = sm + 1 := by omega
    rw [e01] at dv0
    have r4 : cR M sm 4 = some (sm + 5) := (rw.1 4 23 (by decide)).1
    have r7 : cR M sm 7 = some (sm + 8) := (rw.2 7 23 (by decide)).1
    have cr : CR z K (dvC (mv z M (a + 9)) sm nd x fr to pc) sm cc := by
      obtain ⟨y1, y2, y3, y4, y5, y6, y7, y8, y9⟩ := c
      exact ⟨p3.1, y2, y3, y4, y5, y6, y7, by rw [i3s, if_neg (by decide)]; exact y8, y9⟩
    have cd : CD bn sm (nd + 1) nu (dvC (mv z M (a + 9)) sm nd x fr to pc) (dvS S bn nd a x fr to pc) mk (0, [], 0) rc cc (a + 9) 0 := by
      have q := dd.q (M' := dvC (mv z M (a + 9)) sm nd x fr to pc) (S' := dvS S bn nd a x fr to pc) (a' := a + 9) (l3 _ (by omega)) (fun k hk => aS k (by omega) (by omega) (by omega) (by omega)) f48 (by omega)
      obtain ⟨pw, g, pi, J, c1, c2, c3, c4, c5, c6, c7⟩ := q
      refine ⟨pw, g, pi, J, c1, c2, c3, c4, c5, fun i hi => ?_, c7⟩
      obtain ⟨v1, v2, v3, v4, v5, v6⟩ := c6 i hi
      exact ⟨v1, v2, v3, v4, fun y => by have := v5 y; omega, v6⟩
    have k20 : kR (dvS S bn nd a x fr to pc) bn nu = kR S bn nu := kR_ag (aS 20 (by decide) (by decide) (by decide) (by decide)) bn nu
    generalize hM3 : dvC (mv z M (a + 9)) sm nd x fr to pc = M3 at *
    generalize hS3 : dvS S bn nd a x fr to pc = S3 at *
    refine ⟨K, M3, S3, nd + 1, nu, nm, mk, rc, cc, a + 9, q9, q10, by omega, agM, agS, ⟨e, p3, cr, cd, l.q (i3 _ (by omega) (by omega) (by omega) (by omega) (by omega)) (aS 34 (by decide) (by decide) (by decide) (by decide)), f42, f38, hlast⟩, ⟨⟨n1, f12, by rw [r3]; exact n3, n4, by omega, n6, n7, by rw [i3s, if_pos rfl], a13, by rw [i3s, if_neg (by decide)]; exact n10, by rw [aS 18 (by decide) (by decide) (by decide) (by decide)]; exact n11, by rw [i3s, if_neg (by decide)]; exact n12, by rw [aS 35 (by decide) (by decide) (by decide) (by decide)]; exact n13, ?_, n15.st r4 (by rw [r3]) (l3 _ (by omega)) (lS 19 (by decide)), n16.st r7 (by rw [r3]) (l3 _ (by omega)) (lS 36 (by decide))⟩, pu.st (fun q hq => i3 q (by omega) (by omega) (by omega) (by omega) (by omega)) (fun q hq => l3 q (by omega)) r3 (fun k _ _ => aS k (by omega) (by omega) (by omega) (by omega)) (lS 26 (by decide)), ?_, ?_, ?_, ?_, und.st (fun q hq => i3 q (by omega) (by omega) (by omega) (by omega) (by omega)) r3 (fun k _ _ => aS k (by omega) (by omega) (by omega) (by omega)) (fun m hm => hm)⟩, by omega, by rw [k20]; omega, bud3, bud4⟩
    · exact n14.push dv0.1 (by rw [r3]; exact dv0.1) (by rw [dv0.2.2]; omega) l31 l14 q3 q4
    · refine ⟨dv.1, dv.2.1, fun sl kind hm => ?_⟩
      rw [r3]; exact dv.2.2 sl kind hm
    · unfold RWS; rw [r3]; exact rw
    · intro d hd
      rw [i32, i33, i34, a15, a16, a17]
      by_cases w : d = nd
      · rw [if_pos w, if_pos w, if_pos w, if_pos (show 24 * bn + d = 24 * bn + nd by omega), if_pos (show 24 * bn + d = 24 * bn + nd by omega), if_pos (show 24 * bn + d = 24 * bn + nd by omega)]
        exact ⟨rfl, rfl, rfl, ⟨fr, by omega, rfl⟩, ⟨to, q6, rfl⟩, ⟨pc, q7, q8, rfl⟩⟩
      · rw [if_neg w, if_neg w, if_neg w, if_neg (show ¬ 24 * bn + d = 24 * bn + nd by omega), if_neg (show ¬ 24 * bn + d = 24 * bn + nd by omega), if_neg (show ¬ 24 * bn + d = 24 * bn + nd by omega)]
        exact dvd d (by omega)
    · intro d hd
      rw [i3 (sm + 9) (by omega) (by omega) (by omega) (by omega) (by omega), aS 37 (by decide) (by decide) (by decide) (by decide)]
      exact dmd d hd
  · right
    have ke := e.2.2.2.2.2.1
    exact ⟨f, K', M', S', f1, f2, f3 ▸ ke, ⟨fun q h1 h2 => f4.1 q (Nat.lt_of_lt_of_le h1 ke.1.1) h2, fun q s h1 h2 => f4.2 q s (Nat.lt_of_lt_of_le h1 ke.1.1) h2⟩, f5, g1, g2, g3⟩
end DEMAND
