/-! a unit behind its head: all that both have told -/
def UNW (z bn sm nu tu : Nat) (K K2 : Ka) (M M4 : Cm) (S S4 : Ms) (cc rc : Nat) (x : Int64) (x1 x2 bI : Int32) (R L1 L2 bl : List Nat) : Prop :=
  ((KE K K2 ∧ kz K = tu ∧ kz K2 = tu + 10) ∧ kd K2 tu = 8 ∧ (∀ sl kind len, (sl, kind, len) ∈ ([(2, 22, 6), (3, 23, 8), (4, 22, 8), (5, 24, 8)] : List (Nat × Nat × Nat)) → cR M4 tu sl = some (tu + sl - 1) ∧ kd K2 (tu + sl - 1) = kind ∧ le K2 (tu + sl - 1) = len) ∧ (kd K2 (tu + 8) = 22 ∧ le K2 (tu + 8) = L1.length) ∧ kd K2 (tu + 9) = 22 ∧ le K2 (tu + 9) = L2.length) ∧
  ((∀ q, q ≠ z + 7 → q ≠ sm → q ≠ sm + 7 → q < tu → cI M4 q = cI M q) ∧ (∀ s, s ≠ 2 → s ≠ 3 → s ≠ 4 → cI M4 (z + 7) s = cI M (z + 7) s) ∧ cI M4 (z + 7) 4 = nI nu ∧ (∀ s, s ≠ 11 → s ≠ 13 → cI M4 sm s = cI M sm s) ∧ cI M4 sm 11 = nI (nu + 1) ∧ (∀ s, s ≠ nu → cI M4 (sm + 7) s = cI M (sm + 7) s) ∧ (∀ v, v < 24 → (bt (cI M4 (sm + 7) nu) v = true ↔ bt (cI M (sm + 7) nu) v = true ∨ v ∈ R ∨ bI = nI v)) ∧
   (∀ q, q < tu → q ≠ sm + 5 → q ≠ sm + 10 → cL M4 q = cL M q) ∧ (∀ s, cL M4 (sm + 5) s = if s = nu then x else cL M (sm + 5) s) ∧ (∀ j, j < cc → cL M4 (sm + 10) j = cL M (sm + 10) j) ∧ (∀ q s, q < tu → ¬ (q = sm + 6 ∧ s = nu) → cR M4 q s = cR M q s) ∧ cR M4 (sm + 6) nu = some tu) ∧
  (cI M4 tu 0 = x1 ∧ cI M4 tu 1 = x2 ∧ cI M4 tu 6 = bI ∧ cI M4 tu 7 = nI R.length ∧ cI M4 tu 8 = 0 ∧ cI M4 tu 9 = 0 ∧ cI M4 tu 12 = nI cc ∧ cI M4 tu 13 = -1 ∧ HL M4 (tu + 1) R ∧ (∀ s, cI M4 (tu + 4) s = 0) ∧ cR M4 tu 10 = some (tu + 8) ∧ cR M4 tu 11 = some (tu + 9) ∧ HL M4 (tu + 8) L1 ∧ HL M4 (tu + 9) L2) ∧
  ((∀ k, k < bl.length → cL M4 (sm + 10) (cc + k) = wd 7 (nI (bl.getD k 0)) 0) ∧ cL M4 (sm + 10) (cc + bl.length) = wd 8 0 0) ∧
  ((∀ k, k ≠ 7 → k ≠ 49 → k ≠ 50 → mF S4 k = mF S k) ∧ (∀ k j, ¬ hrw (24 * bn + nu) k j → ¬ (k = 18 ∧ j = bn) → ¬ (k = 32 ∧ j = 24 * bn + nu) → mA S4 k j = mA S k j) ∧ (∀ k, k ≠ 19 → mL S4 k = mL S k) ∧ (∀ j, mL S4 19 j = if j = 24 * bn + nu then x else mL S 19 j) ∧ UH S4 (24 * bn + nu) x1 x2 bI R ∧ mA S4 32 (24 * bn + nu) = nI (10000 * bn + rc) ∧ mA S4 18 bn = nI (nu + 1) ∧ mF S4 49 = nI nu ∧ mF S4 50 = 0)
/-- the search lists of the units told, and what they find -/
def USL (K : Ka) (M : Cm) (sm nu : Nat) (fl Ls : Nat → List Nat) : Prop := ∀ u, u < nu → ∃ tw su, cR M (sm + 6) u = some tw ∧ cR M tw 10 = some su ∧ kd K su = 22 ∧ le K su = (Ls u).length ∧ (Ls u).length ≤ 24 ∧ (sm + 11 ≤ su ∧ su < kz K ∧ su = tw + 8) ∧ HL M su (Ls u) ∧ (∀ v, v ∈ Ls u → v ≤ u) ∧ ∀ p : Nat → Bool, (Ls u).find? p = (fl u).find? p
theorem nd_sub : ∀ (L X : List Nat), L.Nodup → (∀ v, v ∈ L → v ∈ X) → L.length ≤ X.length := by
  intro L
  induction L with
  | nil => intro X _ _; exact Nat.zero_le _
  | cons v L ih =>
    intro X hn hs
    obtain ⟨h1, h2⟩ := List.nodup_cons.mp hn
    have hv := hs v (List.mem_cons_self ..)
    have e1 := List.length_erase_of_mem hv
    have e2 := ih (X.erase v) h2 (fun w hw => (List.mem_erase_of_ne (fun (e : w = v) => h1 (e ▸ hw))).mpr (hs w (List.mem_cons_of_mem _ hw)))
    have e3 : 0 < X.length := List.length_pos_of_mem hv
    have e4 : (v :: L).length = L.length + 1 := rfl
    omega
section UNEW
variable {N z b bn sm size t nd nu nm : Nat} {K0 K : Ka} {M M' : Cm} {S S' : Ms} {a a' rc cc p q : Nat} {mk : List Mk} {x : Int64} {x1 x2 bI : Int32} {R : List Nat}
theorem PU.usl (h : PU K M S bn sm nu) : ∃ fl Ls, USL K M sm nu fl Ls ∧ ∀ u, u < nu → (∃ tu, UA K M S bn sm u tu ∧ UB M S bn u tu ∧ UC K M sm fl u tu) ∧ fl u = flq S bn fl u := by
  obtain ⟨p1, p2, fl, p3⟩ := h
  have ch : ∀ u, ∃ L : List Nat, u < nu → ∃ tw su, cR M (sm + 6) u = some tw ∧ cR M tw 10 = some su ∧ kd K su = 22 ∧ le K su = L.length ∧ L.length ≤ 24 ∧ (sm + 11 ≤ su ∧ su < kz K ∧ su = tw + 8) ∧ HL M su L ∧ (∀ v, v ∈ L → v ≤ u) ∧ ∀ p : Nat → Bool, L.find? p = (fl u).find? p := fun u => by
    by_cases hu : u < nu
    · obtain ⟨⟨tw, a1, a2, su, L, c1, c2, c3, c4, c5, c6, c7, c8⟩, a4⟩ := p3 u hu
      exact ⟨L, fun _ => ⟨tw, su, a1.1, c1, c2, c3, c4, c5, c6, c7, c8⟩⟩
    · exact ⟨[], fun h => absurd h hu⟩
  obtain ⟨Ls, hL⟩ := Classical.axiomOfChoice ch
  exact ⟨fl, Ls, fun u hu => hL u hu, p3⟩
theorem bud23 : ∀ n, n < 24 → ∀ k, k < 25 → k ≤ n → (n - k) * (k - 10) ≤ 5 * k := by decide
theorem un_new (h : TS z b bn sm size t K0 K M S nd nu nm mk rc cc a) (hnu : nu < 24) (g : HS z bn sm size t nd nu nm (kz K) (uK K) M S M' S' a' x1 x2 bI R) (gx : x1 = 0 ∨ x1 = 1) (gb : x1 = 0 → bI = -1) (gB : bI = -1 ∨ ∃ v, v < nu ∧ bI = nI v) (ha : a + 2 + p + q ≤ a') (hq : R = [] ∨ q = 2) (hN : 4010 < N) (x : Int64) :
    ∃ K2 M2 M4 S4 fl Ls cl L1 L2 bl, fT_X5_addUnit N sm x (kz K) (uK K) M' = some (.inl (K2, M2)) ∧ bT_X3_readUnit_49 N (z + 7) (kz K) K2 M2 = bT_X3_readUnit_66 N (z + 7) (kz K) K2 M4 ∧ bM_toldUnit_205 N (nI nu) (nI (24 * bn + nu)) x S' = ((fM_takeSign N 123 S4).bind fun o261 => lM_toldUnit_264 N (bM_toldUnit_306 N) N (nI (24 * bn + nu)) o261) ∧
      UNW z bn sm nu (kz K) K K2 M M4 S S4 cc rc x x1 x2 bI R L1 L2 bl ∧ (PT z K2 M4 S4 size t a' ∧ CR z K2 M4 sm (cc + bl.length + 1)) ∧ (USL K M sm nu fl Ls ∧ (∀ u, u < nu → (∃ tu, UA K M S bn sm u tu ∧ UB M S bn u tu ∧ UC K M sm fl u tu) ∧ fl u = flq S bn fl u) ∧ ∀ u, u < nu → UND1 K M S bn sm cl mk u) ∧
      (L1 = (if bI < 0 then amR Ls [nu] R else amL (amR Ls [nu] R) (Ls bI.toNatClampNeg)) ∧ L2 = amR cl [] R ++ (if x1 = 0 then [nu] else []) ∧ bl = (if x1 = 0 then [] else (if bI < 0 then [] else [bI.toNatClampNeg]) ++ L2.filter (fun y => decide (mA S 21 (24 * bn + y) ≠ 0)))) ∧ ((∀ v, v ∈ L1 → v ≤ nu) ∧ L1.length ≤ 24 ∧ L2.Nodup ∧ L2.length ≤ 24 ∧ ∀ v, v ∈ L2 → v ≤ nu) ∧ (ku K2 ≤ ku K + 130 ∧ (x1 = 0 → bl.length = 0) ∧ ∃ nb, nb ≤ kR S bn nu ∧ (R = [] → nb = 0) ∧ bl.length ≤ (if bI = -1 then 0 else 1) + nb) := by
  obtain ⟨he, hr⟩ := h.he hnu
  obtain ⟨⟨e, p', c, dd, l, h42, h38, hlast⟩, ⟨n, pu, dv, rw, dvd, dmd, und⟩, bud1, bud2, bud3, bud4⟩ := id h
  obtain ⟨n1, n2, n3, n4, n5, n6, n7, n8, n9, n10, n11, -⟩ := id n
  obtain ⟨⟨gp, gn⟩, ⟨gc, gf⟩, ⟨go, gu⟩, gl, gr⟩ := id g
  have hh := HS.hz he
  have ht := he.2.2.2.1.2
  have b2 : bn < 2 := by omega
  have i48 : 24 * bn + nu < 48 := by omega
  have ci : (nI (24 * bn + nu)).toNatClampNeg = 24 * bn + nu := nI_clamp (by omega)
  have hat : a' ≤ t := gp.2.2.1
  have k1 := uK_ke K
  have z1 := uK_z K
  have e5 := e.2.2.2.2.1
  obtain ⟨fl, Ls, us, up⟩ := pu.usl
  obtain ⟨cl, uc⟩ := und
  obtain ⟨p1, p2, -⟩ := id pu
  have room : nu < min ((t + 1) / 4 + 1) 24 := by omega
  have r4 := rw.1 4 23 (by decide)
  have r5 := rw.1 5 26 (by decide)
  have r6 := rw.1 6 22 (by decide)
  have e4' : sm + 1 + 4 = sm + 5 := by omega
  have e5' : sm + 1 + 5 = sm + 6 := by omega
  have e6' : sm + 1 + 6 = sm + 7 := by omega
  rw [e4'] at r4
  rw [e5'] at r5
  rw [e6'] at r6
  have cR' : ∀ q, q < kz K → cR M' q = cR M q := fun q hq => (gc.2.2.2 q hq).2
  have cI' : ∀ q, q ≠ z + 7 → q < kz K → cI M' q = cI M q := gc.1
  have told : ∀ u, u < nu → ∃ tw, cR M (sm + 6) u = some tw ∧ kd K tw = 8 ∧ (sm + 11 ≤ tw ∧ tw + 10 ≤ kz K) ∧ cI M tw 1 = mA S 21 (24 * bn + u) := fun u hu => by
    obtain ⟨⟨tw, a1, -⟩, -⟩ := up u hu
    exact ⟨tw, a1.1, a1.2.2.1, a1.2.1, a1.2.2.2.2.2.2.1⟩
  have hU : ULs (uK K) M' sm nu 10 (kz (uK K)) Ls := by
    refine ⟨by rw [cR' sm (by omega), (k1.2 _ (by omega)).1, (k1.2 _ (by omega)).2]; exact p1, fun u hu => ?_⟩
    obtain ⟨tw, su, w1, w2, w3, w4, w5, w6, w7, w8, w9⟩ := us u hu
    obtain ⟨tw', v1, v2, v3, v4⟩ := told u hu
    have et : tw' = tw := by rw [w1] at v1; cases v1; rfl
    subst et
    exact ⟨tw', su, by rw [cR' _ (by omega)]; exact w1, by rw [(k1.2 _ (by omega)).1]; exact v2, by rw [cR' _ (by omega)]; exact w2, by rw [(k1.2 _ (by omega)).1]; exact w3, by rw [(k1.2 _ (by omega)).2]; exact w4, w5, by rw [z1]; omega, fun j hj => by rw [cI' su (by omega) (by omega)]; exact w7 j hj, w8⟩
  have hU2 : ULs (uK K) M' sm nu 11 (kz (uK K)) cl := by
    refine ⟨by rw [cR' sm (by omega), (k1.2 _ (by omega)).1, (k1.2 _ (by omega)).2]; exact p1, fun u hu => ?_⟩
    obtain ⟨tw, cu, w1, w2, w3, w4, w5, w6, w7, w8, w9, -⟩ := uc u hu
    obtain ⟨tw', v1, v2, v3, v4⟩ := told u hu
    have et : tw' = tw := by rw [w1] at v1; cases v1; rfl
    subst et
    exact ⟨tw', cu, by rw [cR' _ (by omega)]; exact w1, by rw [(k1.2 _ (by omega)).1]; exact v2, by rw [cR' _ (by omega)]; exact w2, by rw [(k1.2 _ (by omega)).1]; exact w3, by rw [(k1.2 _ (by omega)).2]; exact w4, w5, by rw [z1]; omega, fun j hj => by rw [cI' cu (by omega) (by omega)]; exact w7 j hj, fun v hv => (w9 v hv).1⟩
  obtain ⟨o1, o2, o3, o4, o5, o6, o7', o8', o9, o10, o11⟩ := id go
  have w2 := o2 2 22 6 (by decide)
  have e1 : kz K + 2 - 1 = kz K + 1 := by omega
  rw [e1] at w2
  have hR : URs (uK K) M' (kz K) (kz (uK K)) nu R := ⟨o1, o6, gl, w2.1, w2.2.1, w2.2.2, o10, fun r hr => (gr r hr).1, by rw [z1]; omega⟩
  obtain ⟨K2, M2, au, AU, l1b, l1n, l2n, l2b⟩ := au_ok (N := N) (K := uK K) (M := M') (sm := sm) (tu := kz K) (nu := nu) x gn.2.2.2.1 ⟨by rw [cR' sm (by omega)]; exact r4.1, by rw [(k1.2 _ (by omega)).1]; exact r4.2.1, by rw [(k1.2 _ (by omega)).2, r4.2.2]; exact room, by rw [(k1.2 _ (by omega)).2, r4.2.2]; omega⟩ (by rw [(k1.2 _ (by omega)).2, r5.2.2]; exact room) ⟨by rw [cR' sm (by omega)]; exact r6.1, by rw [(k1.2 _ (by omega)).1]; exact r6.2.1, by rw [(k1.2 _ (by omega)).2, r6.2.2]; exact room, by rw [(k1.2 _ (by omega)).2, r6.2.2]; omega⟩ hnu (by omega) hU hU2 hR gn.2.2.2.2.2.2.2.2.2.1 (by rw [o5]; exact gB) hh.2.1
  rw [o5] at l1b l1n
  rw [o3] at l2n l2b
  rw [o5, o3] at AU
  generalize hL1 : (if bI < 0 then amR Ls [nu] R else amL (amR Ls [nu] R) (Ls bI.toNatClampNeg)) = L1 at *
  generalize hL2 : amR cl [] R ++ (if x1 = 0 then [nu] else []) = L2 at *
  obtain ⟨ak, ai, ais, ai11, ai7, abt, al, al5, ar, ar6, ar10, ar11, ah1, ah2⟩ := AU
  rw [z1] at ai al ar ar10 ar11 ah1 ah2
  have ln1 : L1.length ≤ 24 := by have := nd_len (nu + 1) L1 l1n (fun v hv => by have := l1b v hv; omega); omega
  have ln2 : L2.length ≤ 24 := by have := nd_len (nu + 1) L2 l2n (fun v hv => by have := l2b v hv; omega); omega
  have z2 : kz K2 = kz K + 10 := by rw [ak, kz_n, kz_n, kz_n, z1]
  have k2 : KE (uK K) K2 := by rw [ak]; exact ((KE.new _ _ _ _).tr (KE.new _ _ _ _)).tr (KE.new _ _ _ _)
  have kk : KE K K2 := k1.tr k2
  have kA : kd K2 (kz K + 8) = 22 ∧ le K2 (kz K + 8) = L1.length := by
    rw [ak]
    exact ⟨by rw [kd_n, if_neg (by rw [kz_n, kz_n, z1]; omega), kd_n, if_pos (by rw [kz_n, z1])], by rw [le_n, if_neg (by rw [kz_n, kz_n, z1]; omega), le_n, if_pos (by rw [kz_n, z1])]⟩
  have kB : kd K2 (kz K + 9) = 22 ∧ le K2 (kz K + 9) = L2.length := by
    rw [ak]
    exact ⟨by rw [kd_n, if_pos (by rw [kz_n, kz_n, z1])], by rw [le_n, if_pos (by rw [kz_n, kz_n, z1])]⟩
  have ku2 : ku K2 ≤ ku K + 130 := by
    rw [ak]
    show ku (uK K) + (nu + 1) + L1.length + L2.length ≤ _
    have : ku (uK K) = ku K + 44 := rfl
    omega
  clear ak
  -- the module's climb
  have nbk : x1 ≠ 0 → (∀ y, y ∈ L2 → y < nu ∧ mA S 20 (24 * bn + y) = 0) := fun hx y hy => by
    rw [← hL2, if_neg hx, List.append_nil] at hy
    rcases amR_mem cl y R [] hy with w | ⟨r, w1, w2⟩
    · exact absurd w (by simp)
    · have r1 := gr r w1
      obtain ⟨tw, cu, v1, v2, v3, v4, v5, v6, v7, v8, v9, -⟩ := uc r r1.1
      have := v9 y w2
      exact ⟨by omega, this.2⟩
  have l2k : x1 ≠ 0 → L2.length ≤ kR S bn nu := fun hx => nd_sub L2 _ l2n (fun y hy => by
    obtain ⟨y1, y2⟩ := nbk hx y hy
    exact List.mem_filter.mpr ⟨List.mem_range.mpr y1, decide_eq_true y2⟩)
  have l20 : x1 ≠ 0 → R = [] → L2 = [] := fun hx hR0 => by rw [← hL2, hR0, if_neg hx]; rfl
  have kle := kR_le S bn nu
  have b23 := bud23 nu hnu (kR S bn nu) (by omega) kle
  -- behind the unit's start
  have c13 : cI M2 sm 13 = nI cc := by rw [ais 13 (by decide), cI' sm (by omega) (by omega)]; exact c.2.2.2.2.2.2.2.1
  have r71 : cR M2 (z + 7) 1 = some sm := by rw [ar (z + 7) 1 (by omega) (by omega) (by omega), cR' _ (by omega)]; exact n3
  have ks2 : kd K2 sm = 6 := by rw [(kk.2 _ (by omega)).1]; exact n4
  have kt2 : kd K2 (kz K) = 8 := by rw [(k2.2 _ (by rw [z1]; omega)).1]; exact o1
  have k72 : kd K2 (z + 7) = 4 := by rw [(kk.2 _ (by omega)).1]; exact p'.1.k 7 4 0 rfl
  have t3 : ∀ s, s ≠ 12 → cI (wI M2 (kz K) 12 (nI cc)) (kz K) s = cI M' (kz K) s := fun s hs => by rw [cI_w, if_neg (fun y => hs y.2), ai _ (by omega) (by omega) (by omega)]
  have ly2 : LY z K2 (wI M2 (kz K) 12 (nI cc)) := by
    refine ((gp.1.old k2 (AgA.rf _ _ _) (by rw [z1]; omega))).c (fun q s hq => ?_)
    show cR M2 q s = cR M' q s
    exact ar q s (by omega) (by omega) (by omega)
  have cr3 : CR z K2 (wI M2 (kz K) 12 (nI cc)) sm cc := by
    obtain ⟨y1, y2, y3, y4, y5, y6, y7, y8, y9⟩ := c
    refine ⟨ly2, y2, r71, ks2, ?_, by rw [(kk.2 _ (by omega)).1]; exact y6, by rw [(kk.2 _ (by omega)).2]; exact y7, by rw [cI_wI_ne _ _ _ (by omega)]; exact c13, by rw [(kk.2 _ (by omega)).2]; exact y9⟩
    show cR M2 sm 9 = _
    rw [ar sm 9 (by omega) (by omega) (by omega), cR' _ (by omega)]
    exact y5
  have le2 : le K2 (sm + 10) = 2 * t + 10 := by rw [(kk.2 _ (by omega)).2]; exact e.2.2.2.2.2.2
  have r5m : cR (wI M2 (kz K) 12 (nI cc)) sm 5 = some (sm + 6) ∧ kd K2 (sm + 6) = 26 ∧ le K2 (sm + 6) ≤ 24 := ⟨by show cR M2 sm 5 = _; rw [ar sm 5 (by omega) (by omega) (by omega), cR' _ (by omega)]; exact p1.1, by rw [(kk.2 _ (by omega)).1]; exact p1.2.1, by rw [(kk.2 _ (by omega)).2]; exact p1.2.2.2⟩
  have t30 : cI (wI M2 (kz K) 12 (nI cc)) (kz K) 0 = x1 := (t3 0 (by decide)).trans o3
  have t36 : cI (wI M2 (kz K) 12 (nI cc)) (kz K) 6 = bI := (t3 6 (by decide)).trans o5
  obtain ⟨M4, b1, b2', b3⟩ := eb_ok (N := N) (z := z) (K := K2) (M := wI M2 (kz K) 12 (nI cc)) (sm := sm) (cc := cc) (tu := kz K) (cu := kz K + 9) (nu := nu) (C := L2) (A := fun y => mA S 21 (24 * bn + y)) k72 r71 ks2 kt2 (by omega) (by rw [t30, t36]; exact gb) (by rw [t36]; exact gB) (by omega) ar11 kB.1 kB.2 (by omega) ln2 (fun j hj => by rw [cI_wI_ne _ _ _ (by omega)]; exact ah2 j hj) r5m (by omega) (fun hx y hy => by
      rw [t30] at hx
      obtain ⟨y1, y2⟩ := nbk hx y hy
      obtain ⟨tw, v1, v2, v3, v4⟩ := told y y1
      refine ⟨tw, ?_, by rw [(kk.2 _ (by omega)).1]; exact v2, by omega, by have := p1.2.2.1; rw [(kk.2 _ (by omega)).2]; omega, ?_⟩
      · show cR M2 (sm + 6) y = _
        rw [ar _ _ (by omega) (by omega) (by omega), cR' _ (by omega)]; exact v1
      · rw [cI_wI_ne _ _ _ (by omega), ai tw (by omega) (by omega) (by omega), cI' tw (by omega) (by omega)]; exact v4) cr3 (by
      rw [t30, le2]
      by_cases hx : x1 = 0
      · rw [if_pos hx]; omega
      · rw [if_neg hx]
        have := l2k hx
        omega)
  rw [t30, t36] at b2' b3
  generalize hbl : (if x1 = 0 then [] else (if bI < 0 then [] else [bI.toNatClampNeg]) ++ L2.filter (fun y => decide (mA S 21 (24 * bn + y) ≠ 0))) = bl at *
  obtain ⟨x1', x2', x3', x4', x5', x6'⟩ := b2'
  have elb : (bl.map w7 ++ [wd 8 0 0]).length = bl.length + 1 := by rw [List.length_append, List.length_map]; rfl
  -- the class, from the head on
  have i4 : ∀ q, q ≠ sm → q ≠ sm + 7 → q ≠ kz K → q < kz K + 7 → cI M4 q = cI M' q := fun q q1 q2 q3 q4 => by rw [x1' q q1, cI_wI_ne _ _ _ q3, ai q q1 q2 q4]
  have i4t : ∀ s, s ≠ 12 → cI M4 (kz K) s = cI M' (kz K) s := fun s hs => by rw [x1' (kz K) (by omega)]; exact t3 s hs
  have i4u : ∀ q, q ≠ sm → q ≠ kz K → cI M4 q = cI M2 q := fun q q1 q2 => by rw [x1' q q1, cI_wI_ne _ _ _ q2]
  have i4s : ∀ s, s ≠ 11 → s ≠ 13 → cI M4 sm s = cI M' sm s := fun s s1 s2 => by rw [x2' s s2, cI_wI_ne _ _ _ (by omega), ais s s1]
  have i411 : cI M4 sm 11 = nI (nu + 1) := by rw [x2' 11 (by decide), cI_wI_ne _ _ _ (by omega)]; exact ai11
  have l4 : ∀ q, q ≠ sm + 5 → q ≠ sm + 10 → q < kz K + 7 → cL M4 q = cL M' q := fun q q1 q2 q3 => by rw [x3' q q2, cL_I, al q q3 q1]
  have r4' : ∀ q s, q < kz K + 7 → ¬ (q = sm + 6 ∧ s = nu) → ¬ (q = kz K ∧ (s = 10 ∨ s = 11)) → cR M4 q s = cR M' q s := fun q s q1 q2 q3 => by rw [x6', cR_I, ar q s q1 q2 q3]
  have r42 : ∀ q s, cR M4 q s = cR M2 q s := fun q s => by rw [x6', cR_I]
  -- the reference
  have s8 : mF S' 8 = 0 := gp.2.2.2.2.1
  have s12 : mF S' 12 = nI bn := gn.2.1
  have s18 : mA S' 18 bn = nI nu := gn.2.2.2.2.2.2.2.2.2.2.1
  have s42 : mF S' 42 = nI (10000 * bn) := (gf.1 42 (by decide)).trans h42
  have s38 : mF S' 38 = nI rc := (gf.1 38 (by decide)).trans h38
  have ref : bM_toldUnit_205 N (nI nu) (nI (24 * bn + nu)) x S' = ((fM_takeSign N 123 (pA (pF (pF (pA (pL S' 19 (24 * bn + nu) x) 18 bn (nI (nu + 1))) 49 (nI nu)) 50 0) 32 (24 * bn + nu) (nI (10000 * bn + rc)))).bind fun o261 => lM_toldUnit_264 N (bM_toldUnit_306 N) N (nI (24 * bn + nu)) o261) := by
    unfold bM_toldUnit_205
    have f12 : mF (pL S' 19 (24 * bn + nu) x) 12 = nI bn := s12
    have f18 : mA (pL S' 19 (24 * bn + nu) x) 18 bn = nI nu := s18
    have f42 : mF (pF (pF (pA (pL S' 19 (24 * bn + nu) x) 18 bn (nI (nu + 1))) 49 (nI nu)) 50 0) 42 = nI (10000 * bn) := s42
    have f38 : mF (pF (pF (pA (pL S' 19 (24 * bn + nu) x) 18 bn (nI (nu + 1))) 49 (nI nu)) 50 0) 38 = nI rc := s38
    rw [if_pos (by rw [s8]; decide), ci, ck_n i48 (by decide), f12, ck_n b2 (by decide), ck_n b2 (by decide), nI_clamp (show bn < 2 ^ 31 by omega), f18, nI_1, ck_n i48 (by decide), f42, f38, nI_add]
  have sA4 : ∀ k j, ¬ (k = 18 ∧ j = bn) → ¬ (k = 32 ∧ j = 24 * bn + nu) → mA (pA (pF (pF (pA (pL S' 19 (24 * bn + nu) x) 18 bn (nI (nu + 1))) 49 (nI nu)) 50 0) 32 (24 * bn + nu) (nI (10000 * bn + rc))) k j = mA S' k j := fun k j h1 h2 => by
    rw [mA_A, if_neg h2]
    show mA (pA (pL S' 19 (24 * bn + nu) x) 18 bn (nI (nu + 1))) k j = _
    rw [mA_A, if_neg h1]
    rfl
  have sA4' : ∀ k, k ≠ 18 → k ≠ 32 → mA (pA (pF (pF (pA (pL S' 19 (24 * bn + nu) x) 18 bn (nI (nu + 1))) 49 (nI nu)) 50 0) 32 (24 * bn + nu) (nI (10000 * bn + rc))) k = mA S' k := fun k h1 h2 => funext (fun j => sA4 k j (fun y => h1 y.1) (fun y => h2 y.1))
  have sL4 : ∀ k j, mL (pA (pF (pF (pA (pL S' 19 (24 * bn + nu) x) 18 bn (nI (nu + 1))) 49 (nI nu)) 50 0) 32 (24 * bn + nu) (nI (10000 * bn + rc))) k j = if k = 19 ∧ j = 24 * bn + nu then x else mL S' k j := fun k j => by
    show mL (pL S' 19 (24 * bn + nu) x) k j = _
    rw [mL_L]
  have sL4' : ∀ k, k ≠ 19 → mL (pA (pF (pF (pA (pL S' 19 (24 * bn + nu) x) 18 bn (nI (nu + 1))) 49 (nI nu)) 50 0) 32 (24 * bn + nu) (nI (10000 * bn + rc))) k = mL S' k := fun k hk => funext (fun j => by rw [sL4, if_neg (fun y => hk y.1)])
  have sF4 : ∀ k, k ≠ 49 → k ≠ 50 → mF (pA (pF (pF (pA (pL S' 19 (24 * bn + nu) x) 18 bn (nI (nu + 1))) 49 (nI nu)) 50 0) 32 (24 * bn + nu) (nI (10000 * bn + rc))) k = mF S' k := fun k h1 h2 => by
    show mF (pF (pF (pA (pL S' 19 (24 * bn + nu) x) 18 bn (nI (nu + 1))) 49 (nI nu)) 50 0) k = _
    rw [mF_F, if_neg h2, mF_F, if_neg h1]
    rfl
  have f49 : mF (pA (pF (pF (pA (pL S' 19 (24 * bn + nu) x) 18 bn (nI (nu + 1))) 49 (nI nu)) 50 0) 32 (24 * bn + nu) (nI (10000 * bn + rc))) 49 = nI nu := rfl
  have f50 : mF (pA (pF (pF (pA (pL S' 19 (24 * bn + nu) x) 18 bn (nI (nu + 1))) 49 (nI nu)) 50 0) 32 (24 * bn + nu) (nI (10000 * bn + rc))) 50 = 0 := rfl
  have f32 : mA (pA (pF (pF (pA (pL S' 19 (24 * bn + nu) x) 18 bn (nI (nu + 1))) 49 (nI nu)) 50 0) 32 (24 * bn + nu) (nI (10000 * bn + rc))) 32 (24 * bn + nu) = nI (10000 * bn + rc) := by rw [mA_A, if_pos ⟨rfl, rfl⟩]
  have f18 : mA (pA (pF (pF (pA (pL S' 19 (24 * bn + nu) x) 18 bn (nI (nu + 1))) 49 (nI nu)) 50 0) 32 (24 * bn + nu) (nI (10000 * bn + rc))) 18 bn = nI (nu + 1) := by
    rw [mA_Ane _ _ _ (by decide)]
    show mA (pA (pL S' 19 (24 * bn + nu) x) 18 bn (nI (nu + 1))) 18 bn = _
    rw [mA_A, if_pos ⟨rfl, rfl⟩]
  generalize hS4 : pA (pF (pF (pA (pL S' 19 (24 * bn + nu) x) 18 bn (nI (nu + 1))) 49 (nI nu)) 50 0) 32 (24 * bn + nu) (nI (10000 * bn + rc)) = S4 at *
  have cls : bT_X3_readUnit_49 N (z + 7) (kz K) K2 M2 = bT_X3_readUnit_66 N (z + 7) (kz K) K2 M4 := by
    unfold bT_X3_readUnit_49
    rw [gd_k k72, nn_s r71, gd_k ks2, gd_k kt2, c13, b1, ta_l]
  refine ⟨K2, M2, M4, S4, fl, Ls, cl, L1, L2, bl, au, cls, ref, ⟨⟨⟨kk, rfl, z2⟩, kt2, fun sl kind len hm => ?_, kA, kB⟩, ⟨fun q q1 q2 q3 q4 => ?_, fun s s1 s2 s3 => ?_, ?_, fun s s1 s2 => ?_, i411, fun s hs => ?_, fun v hv => ?_, fun q q1 q2 q3 => ?_, fun s => ?_, fun j hj => ?_, fun q s q1 q2 => ?_, ?_⟩, ⟨?_, ?_, ?_, ?_, ?_, ?_, ?_, ?_, ?_, ?_, ?_, ?_, ?_, ?_⟩, ⟨fun k hk => ?_, ?_⟩, fun k k1 k2 k3 => ?_, fun k j k1 k2 k3 => ?_, fun k hk => ?_, fun j => ?_, ?_, f32, f18, f49, f50⟩, ⟨⟨?_, ?_, hat, ?_, ?_, ?_, ?_, ?_⟩, b3⟩, ⟨us, up, uc⟩, ⟨hL1.symm, hL2.symm, hbl.symm⟩, ⟨l1b, ln1, l2n, ln2, l2b⟩, ku2, fun hx => ?_, ?_⟩
  · have w := o2 sl kind len hm
    have hsl : sl = 2 ∨ sl = 3 ∨ sl = 4 ∨ sl = 5 := by
      simp only [List.mem_cons, List.not_mem_nil, or_false, Prod.mk.injEq] at hm
      omega
    refine ⟨by rw [r4' _ _ (by omega) (by omega) (by omega)]; exact w.1, by rw [(k2.2 _ (by rw [z1]; omega)).1]; exact w.2.1, by rw [(k2.2 _ (by rw [z1]; omega)).2]; exact w.2.2⟩
  · rw [i4 q q2 q3 (by omega) (by omega)]; exact gc.1 q q1 q4
  · rw [i4 _ (by omega) (by omega) (by omega) (by omega)]; exact gc.2.1 s s1 s2 s3
  · rw [i4 _ (by omega) (by omega) (by omega) (by omega)]; exact gc.2.2.1
  · rw [i4s s s1 s2, cI' sm (by omega) (by omega)]
  · rw [i4u _ (by omega) (by omega), ai7 s hs, cI' _ (by omega) (by omega)]
  · rw [i4u _ (by omega) (by omega), abt v hv, cI' _ (by omega) (by omega), o5]
  · rw [l4 q q2 q3 (by omega), (gc.2.2.2 q q1).1]
  · rw [x3' _ (by omega), cL_I, al5 s, (gc.2.2.2 _ (by omega)).1]
  · rw [x4' j hj, cL_I, al _ (by omega) (by omega), (gc.2.2.2 _ (by omega)).1]
  · rw [r4' q s (by omega) q2 (by omega), cR' q q1]
  · rw [r42]; exact ar6
  · rw [i4t 0 (by decide)]; exact o3
  · rw [i4t 1 (by decide)]; exact o4
  · rw [i4t 6 (by decide)]; exact o5
  · rw [i4t 7 (by decide)]; exact o6
  · rw [i4t 8 (by decide)]; exact o7'
  · rw [i4t 9 (by decide)]; exact o8'
  · rw [x1' _ (by omega), cI_w, if_pos ⟨rfl, rfl⟩]
  · rw [i4t 13 (by decide)]; exact o9
  · intro j hj
    rw [i4 _ (by omega) (by omega) (by omega) (by omega)]; exact o10 j hj
  · intro s
    rw [i4 _ (by omega) (by omega) (by omega) (by omega)]; exact o11 s
  · rw [r42]; exact ar10
  · rw [r42]; exact ar11
  · intro j hj
    rw [i4u _ (by omega) (by omega)]; exact ah1 j hj
  · intro j hj
    rw [i4u _ (by omega) (by omega)]; exact ah2 j hj
  · rw [x5' k (by omega), List.getD_eq_getElem?_getD, List.getElem?_append_left (by rw [List.length_map]; exact hk), List.getElem?_map, List.getD_eq_getElem?_getD, List.getElem?_eq_getElem hk]
    rfl
  · have := x5' bl.length (by omega)
    rw [this, List.getD_eq_getElem?_getD, List.getElem?_append_right (by rw [List.length_map]; exact Nat.le_refl _), List.length_map, Nat.sub_self]
    rfl
  · rw [sF4 k k2 k3]; exact gf.1 k k1
  · rw [sA4 k j k2 k3]; exact gf.2.1 k j k1
  · rw [sL4' k hk, gf.2.2]
  · rw [sL4 19 j, gf.2.2]
    by_cases y : j = 24 * bn + nu
    · rw [if_pos ⟨rfl, y⟩, if_pos y]
    · rw [if_neg (fun w => y w.2), if_neg y]
  · unfold UH at gu ⊢
    rw [sA4' 20 (by decide) (by decide), sA4' 21 (by decide) (by decide), sA4' 22 (by decide) (by decide), sA4' 23 (by decide) (by decide), sA4' 24 (by decide) (by decide), sA4' 25 (by decide) (by decide), sA4' 30 (by decide) (by decide), sA4' 31 (by decide) (by decide), sA4' 33 (by decide) (by decide)]
    exact gu
  · refine ly2.c (fun q s hq => ?_)
    show cR M4 q s = cR M2 q s
    exact r42 q s
  · have := gp.2.1
    unfold TKS TK1 at this ⊢
    rw [i4 (z + 1) (by omega) (by omega) (by omega) (by omega), i4 (z + 3) (by omega) (by omega) (by omega) (by omega), i4 (z + 4) (by omega) (by omega) (by omega) (by omega), l4 (z + 5) (by omega) (by omega) (by omega), sA4' 4 (by decide) (by decide), sA4' 5 (by decide) (by decide), sL4' 6 (by decide)]
    exact this
  · rw [sF4 7 (by decide) (by decide)]; exact gp.2.2.2.1
  · rw [sF4 8 (by decide) (by decide)]; exact gp.2.2.2.2.1
  · rw [i4 _ (by omega) (by omega) (by omega) (by omega)]; exact gp.2.2.2.2.2.1
  · rw [i4 (z + 7) (by omega) (by omega) (by omega) (by omega), i4 (z + 3) (by omega) (by omega) (by omega) (by omega)]; exact gp.2.2.2.2.2.2.1
  · rw [sL4' 10 (by decide)]; exact gp.2.2.2.2.2.2.2
  · rw [← hbl, if_pos hx]; rfl
  · refine ⟨if x1 = 0 then 0 else L2.length, ?_, fun hR0 => ?_, ?_⟩
    · by_cases hx : x1 = 0
      · rw [if_pos hx]; omega
      · rw [if_neg hx]; exact l2k hx
    · by_cases hx : x1 = 0
      · rw [if_pos hx]
      · rw [if_neg hx, l20 hx hR0]; rfl
    · rw [← hbl]
      by_cases hx : x1 = 0
      · rw [if_pos hx, if_pos hx]; exact Nat.zero_le _
      · rw [if_neg hx, if_neg hx, List.length_append]
        have fl' := List.length_filter_le (fun y => decide (mA S 21 (24 * bn + y) ≠ 0)) L2
        rcases gB with w | ⟨v, v1, v2⟩
        · rw [w, if_pos (by decide), if_pos rfl]
          have : ([] : List Nat).length = 0 := rfl
          omega
        · have nb : ¬ bI < 0 := by rw [v2]; exact nI_pos (by omega)
          have nb1 : ¬ bI = -1 := fun w => nb (by rw [w]; decide)
          rw [if_neg nb, if_neg nb1]
          have : [bI.toNatClampNeg].length = 1 := rfl
          omega
end UNEW
