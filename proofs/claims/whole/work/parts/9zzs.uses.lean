/-! runs: instructions that touch -/
def RLK (N : Nat) (K : Ka) (z : Nat) (x r : Int32) (M : Cm) : Option Cm := if (cI M (z + 35) 9) = 0 then (nn (cR M (z + 35) 0) fun a1 => gd (kd K a1 == 5) (nn (cR M a1 0) fun a2 => gd (kd K a2 == 22) (ck x (le K a2) (if (cI M a2 (x : Int32).toNatClampNeg) = 1 then (nn (cR M (z + 35) 5) fun a3 => gd (kd K a3 == 2) (if (cI M a3 1) = x then ((bC_X2_look_61 N K) (z + 35) x r M) else (nn (cR M (z + 35) 5) fun a4 => gd (kd K a4 == 2) (nn (cR M (z + 35) 1) fun a5 => gd (kd K a5 == 1) ((fC_X0_addHalf N K a5 (cI M a4 1) x r M).bind fun o58 => (bC_X2_look_61 N K) (z + 35) x r o58))))) else ((bC_X2_look_61 N K) (z + 35) x r M))))) else ((bC_X2_look_61 N K) (z + 35) x r M)
def RSO (N : Nat) (K : Ka) (z : Nat) (x r : Int32) (M : Cm) : Option Cm := nn (cR M (z + 35) 0) fun a1 => gd (kd K a1 == 5) (nn (cR M a1 2) fun a2 => (fC_X2_pop N K (z + 35) M).bind fun o27 => gd (kd K a2 == 22) (ck ((x * 8) + r) (le K a2) ((bC_X2_store_31 N K) (z + 35) (wI o27.2 a2 ((x * 8) + r : Int32).toNatClampNeg o27.1))))
section USES
variable {z b st nd nu lim nh no h fl t0 c B0 N t sz ts dm : Nat} {clo who : Int32} {U : List Nat} {K : Ka} {M0 M M1 M2 : Cm} {S0 S S1 S2 : Ms} {mk : List Mk} {rc cc : Nat} {g : Nat → Nat × Nat × Nat} {pi : Nat → Nat} {J : Nat → Jt} {cl : Nat → List Nat}
theorem lk_eq (hk : kd K (z + 35) = 3) (x r : Int32) : fC_X2_look N K (z + 35) x r M = (fC_X2_noteNeed N K (z + 35) x M).bind fun o => (fC_X2_isThere N K (z + 35) x o).bind fun p => if p.1 = 0 then some p.2 else RLK N K z x r p.2 := by
  unfold fC_X2_look
  rw [gd_k hk]
  rfl
theorem so_eq (hk : kd K (z + 35) = 3) (x r : Int32) : fC_X2_store N K (z + 35) x r M = (fC_X2_noteNeed N K (z + 35) x M).bind fun o => (fC_X2_isThere N K (z + 35) x o).bind fun p => if p.1 = 0 then some p.2 else RSO N K z x r p.2 := by
  unfold fC_X2_store
  rw [gd_k hk]
  rfl
theorem uses_ok (X : CDX z b st nd nu K M0 S0 mk rc cc g pi J cl) (hN : 1000000 < N) (hC : clo = 0 → CUs z b st nd nu lim B0 N K M0 S0 dm) (m : MBX z b st nd nu lim B0 clo M0 S0 t h fl t0 U who M S) (f : FMp z b rc g pi J h fl t0 c M S) {w x k : Nat} {s : Int32} (hw : cwd b S0 pi (g c) = wd (nI w) (nI x) s) (hw2 : w < 256) (hx : x < nu) (ho : 4 ≤ (g c).1 ∧ (g c).1 ≤ 6) {R : Cm → Option Cm}
    (hpf : ∀ M, fC_X2_perform N K (z + 35) (nI w) (nI x) s M = (fC_X2_noteNeed N K (z + 35) (nI x) M).bind fun o => (fC_X2_isThere N K (z + 35) (nI x) o).bind fun p => if p.1 = 0 then some p.2 else R p.2) (hd : clo = 0 → dn S (fun _ => 1) nu ≤ dm) (hk : clo = 0 → dn S (wt b nu S0) nu ≤ k) (hT : t + gS nu S + 2 ≤ 1000000) :
    ∃ e S', gT N (k + 2) 5 (nI x) who clo 0 0 (pF S 99 (nI (10000 * b + (c + 1)))) = some (e, S') ∧
      ((e = 0 ∧ ∃ t' M', RN N K z st t M = (R M').bind (RN N K z st (t' + 1)) ∧ MBX z b st nd nu lim B0 clo M0 S0 t' h fl t0 U who M' S' ∧ CTL z b h t0 g pi (pi c + 1) (c + 1) (J c).2.1 M' S' ∧ STK z fl (J c).1 M' S' ∧ PR z h fl t0 M M' S S' ∧ t' + gS nu S' ≤ t + gS nu S + 1 ∧ t ≤ t') ∨
       (e ≠ 0 ∧ ST1 z b st nd nu lim B0 N K clo M0 S0 rc g pi J t h fl t0 U who c M S e S')) := by
  have hh := m.hh X
  have hn24 : nu ≤ 24 := X.1.2.1
  obtain ⟨r1, r2, r3, r4, r5, r6⟩ := tk_at X hN m f (by omega) hw hw2 (by omega)
  obtain ⟨M1, S1, a1, a2, a3, a4, a5, -⟩ := nd_at X hN r6 hx
  have hL1 := a3.ly X
  have g1 : gS nu S1 ≤ gS nu S := Nat.le_trans a4.gs r2.gs
  have s54 : ∀ v, mA S1 54 v = 0 → mA S 54 v = 0 := fun v hv => by
    have := a4.2.2.2.1 54 (Or.inl rfl)
    rw [this] at hv
    exact hv
  have hr : RN N K z st t M = ((fC_X2_isThere N K (z + 35) (nI x) M1).bind fun p => if p.1 = 0 then some p.2 else R p.2).bind (RN N K z st (t + 1)) := by rw [r1, hpf, a1, bs]
  have ct1 := r4.dch a4 (by omega)
  have sk1 := r5.dch a4
  have pr1 : PR z h fl t0 M M1 S S1 := r2.pr.tr (a4.pr (by omega))
  have c01 : clo = 0 ∨ clo = 1 := by
    obtain ⟨nh, no, -, -, -, -, -, -, -, e5⟩ := m
    exact e5.elim (fun w => Or.inl w.1) (fun w => Or.inr w.1)
  rw [gT_5]
  unfold fM_uses bM_uses_20
  rw [a2, bs]
  rcases c01 with c0 | c0
  · subst c0
    rw [if_pos rfl]
    have tbnd := fl_34 m
    have j34 := (X.pl f.1).2.2.2.1.1
    obtain ⟨e, S', b1, b2, b3⟩ := tch0 X hN (hC rfl) a3 (sz := fl + (J c).1) (ts := t0 + (J c).2.1.length) ⟨sk1.1, sk1.2.1, sk1.2.2, ct1.2.2.2.2.1, by omega, by omega, by omega, by omega⟩ hx (q := pi c) (k := k) ct1.1 (Nat.le_trans (dn_le _ s54 nu) (hd rfl)) (Nat.le_trans (dn_le _ s54 nu) (hk rfl)) (by omega) hr (fun t' M' S' ht' m' f2 st2 nm => by
      have pl := X.pl f.1
      have tp := tw_pos (g c)
      obtain ⟨y1, y2, y3⟩ := rn_at X hN m' f2 (show pi c < cc by omega) ht' (pl.2.1.trans hw) hw2 (by omega)
      have m2 := m'.pln y2
      obtain ⟨M3, S3, z1, -, -, -, -, z6⟩ := nd_at X hN m2 hx
      have e3 := z6 (a5.mono nm)
      obtain ⟨q1, -⟩ := m2.st5 (show x < 24 by omega)
      have h9 : cI (wI M' (z + 38 + 2 * h) 2 (nI (pi c + 1))) (z + 35) 9 = 0 := by obtain ⟨nh', no', -, -, -, w, -⟩ := m2; exact w.2.2.2.2.2.2.2
      rw [y1, hpf, z1, bs, e3, c_is1 y3 N (by omega) (Or.inr ⟨h9, Or.inl (by rw [q1]; exact st2)⟩), bs]
      dsimp only
      rw [if_neg (by decide)])
    obtain ⟨u1, u2, u3, u4⟩ := b2
    refine ⟨e, S', by rw [b1, bs], ?_⟩
    rcases b3 with ⟨rfl, t', M', q1, q2, q3, q4, q5, q6, q7⟩ | ⟨rfl, t', j, M', q1, q2, q3, q4, q5, q6, q7, q8, q9⟩ | ⟨rfl, Mf, q1, q2⟩
    · obtain ⟨y1, y2, y3, y4, y5, y6⟩ := ct1
      obtain ⟨v1, v2, v3⟩ := sk1
      have fr := q5.1 h (by omega)
      refine Or.inl ⟨rfl, t', M', q1, q2, ⟨by rw [fr.1]; exact y1, by rw [u4]; exact y2, by rw [fr.1, u3]; exact y3, by rw [fr.1]; exact y4, by rw [u2]; exact y5, y6.ag (fun j _ => by rw [fr.2]) (fun j hj => q5.2.2.1 _ (by omega))⟩, ⟨q3, by rw [u1]; exact v2, fun j hj => by rw [(q5.2.1 j hj).1, (q5.2.1 j hj).2]; exact v3 j hj⟩, pr1.tr (q5.mono (by omega) (by omega) (by omega)), by omega, q7⟩
    · obtain ⟨y1, y2, y3, y4, y5, y6⟩ := ct1
      obtain ⟨v1, v2, v3⟩ := sk1
      refine Or.inr ⟨by decide, Or.inr (Or.inl ⟨rfl, t', j, M', q1, q2, ⟨by rw [q3 5 (by decide)]; exact y4, by rw [u2]; exact y5, y6.ag (fun j _ => by rw [q4]) (fun j hj => q5.2.2.1 _ (by omega)), fun j hj => by rw [(q5.2.1 j (by omega)).1, (q5.2.1 j (by omega)).2]; exact v3 j (by omega), q9⟩, q6, pr1.tr (q5.mono (by omega) (by omega) (by omega)), by omega, q8, by omega, by omega⟩)⟩
    · exact Or.inr ⟨by decide, Or.inr (Or.inr ⟨rfl, Mf, q1, q2⟩)⟩
  · rw [if_neg (by rw [c0]; decide)]
    refine ⟨0, S1, rfl, Or.inl ⟨rfl, t, M1, ?_, a3, ct1, sk1, pr1, by omega, Nat.le_refl _⟩⟩
    have h9 : cI M1 (z + 35) 9 = 1 := by obtain ⟨nh', no', -, -, -, w, -⟩ := a3; rw [w.2.2.2.2.2.2.2]; exact c0
    rw [hr, c_is1 hL1 N (by omega) (Or.inl h9), bs]
    dsimp only
    rw [if_neg (by decide)]
/-- the instruction itself, behind a touch -/
theorem ok2 {t' : Nat} (f : FMp z b rc g pi J h fl t0 c M S) (hr : RN N K z st t M = RN N K z st (t' + 1) M2) (m2 : MBX z b st nd nu lim B0 clo M0 S0 (t' + 1) h fl t0 U who M2 S2) (pr : PR z h fl t0 M M2 S S2) {c' : Nat} (hc : c' < rc) (ct : CTL z b h t0 g pi (pi c') c' (J c').2.1 M2 S2) (k : STK z fl (J c').1 M2 S2) (hg : t' + gS nu S2 ≤ t + gS nu S + 1) (ht : t ≤ t') (hk : (J c).2.2 < (J c').2.2) (hk2 : (J c).2.2 < 91) :
    ST1 z b st nd nu lim B0 N K clo M0 S0 rc g pi J t h fl t0 U who c M S 0 S2 :=
  Or.inl ⟨rfl, t' + 1, M2, c', hr, m2, fmp_mk hc ct k, pr, by omega, by omega⟩
theorem o_6 (X : CDX z b st nd nu K M0 S0 mk rc cc g pi J cl) (hN : 1000000 < N) (hC : clo = 0 → CUs z b st nd nu lim B0 N K M0 S0 dm) (m : MBX z b st nd nu lim B0 clo M0 S0 t h fl t0 U who M S) (f : FMp z b rc g pi J h fl t0 c M S) {k : Nat} (hd : clo = 0 → dn S (fun _ => 1) nu ≤ dm) (hk : clo = 0 → dn S (wt b nu S0) nu ≤ k) (hT : t + gS nu S + 2 ≤ 1000000) (ho : (g c).1 = 6) :
    ∃ e S2, fM_work N (gT N (k + 2)) (nI 6) (nI (g c).2.1) 0 who clo (pF S 99 (nI (10000 * b + (c + 1)))) = some (e, S2) ∧ ST1 z b st nd nu lim B0 N K clo M0 S0 rc g pi J t h fl t0 U who c M S e S2 := by
  have hh := m.hh X
  have hx := (X.pl f.1).2.2.2.2.1.2.2.2.1 ho
  have hn24 : nu ≤ 24 := X.1.2.1
  have k35 : kd K (z + 35) = 3 := (m.ly X).k 35 3 0 rfl
  obtain ⟨-, -, p3, p4, -⟩ := X.pl f.1
  obtain ⟨c1, c2⟩ := p3 (by omega)
  obtain ⟨w1, w2, w3, w4, w5, w6⟩ := w1_nx p4 ho (by unfold ft; decide) (by decide) (by decide) (a := 0) (p := 0) rfl rfl
  have tw1 : tw (g c) = 1 := by unfold tw; rw [if_neg (by omega)]
  rw [tw1] at c2
  obtain ⟨e, S', a1, a2⟩ := uses_ok X hN hC m f (w := 6) (x := (g c).2.1) (k := k) (s := 0) (by unfold cwd; rw [ho]; rfl) (by decide) hx (by omega) (R := some) (fun M => by
    rw [pf6 k35]
    congr 1
    funext o
    congr 1
    funext p
    split <;> rfl) hd hk hT
  refine ⟨e, S', ?_, ?_⟩
  · unfold fM_work
    rw [if_neg (by decide), if_neg (by decide), if_neg (by decide), if_neg (by decide), if_neg (by decide), if_pos (by decide), a1, bs]
  · rcases a2 with ⟨rfl, t', M', q1, q2, q3, q4, q5, q6, q7⟩ | ⟨-, q⟩
    · exact ok2 f (by rw [q1, bs]) q2.up1 q5 c1 (by rw [c2, w3]; exact q3) (by rw [show (J (c + 1)).1 = (J c).1 by omega]; exact q4) q6 q7 w4 (by omega)
    · exact q
/-- a static's rank with the class -/
theorem st_rank (X : CDX z b st nd nu K M0 S0 mk rc cc g pi J cl) {x s : Nat} (hx : x < nu) (hs : SLs S0 b x s 0) : ∃ r, r < 8 ∧ mA S0 29 (sl8 b x s) = nI r ∧ s < 8 ∧ ∀ s', SLs S0 b x s' 0 → mA S0 29 (sl8 b x s') = nI r → s' = s := by
  obtain ⟨-, -, ⟨p1, p2, fl', p3⟩, -⟩ := X
  obtain ⟨⟨tu, a1, ⟨ni, ns, b1, b2, b3, b4, b5, b6, b7, b8, b9, b10, b11, b12⟩, -⟩, -⟩ := p3 x hx
  obtain ⟨⟨ni', d1, d2, d3⟩, d4⟩ := hs
  have e : ni' = ni := (nI_eq (by omega) (by omega)).mp (d2.symm.trans b4)
  subst e
  obtain ⟨-, w⟩ := b9 s d3
  rcases w with ⟨w, -⟩ | ⟨-, -, -, r, r1, r2⟩
  · have : mA S0 27 (8 * (24 * b + x) + s) = 0 := d4
    rw [this] at w; exact absurd w (by decide)
  · refine ⟨r, by omega, r2, by omega, fun s' hs' hr' => ?_⟩
    obtain ⟨⟨ni2, f1, f2, f3⟩, f4⟩ := hs'
    have e2 : ni2 = ni' := (nI_eq (by omega) (by omega)).mp (f2.symm.trans b4)
    subst e2
    exact b11 s' s f3 d3 f4 d4 (hr'.trans r2.symm)
theorem lk_ev (hL : LY z K M) (hh : h < 25) (h5 : cR M (z + 35) 5 = some (z + 38 + 2 * h)) (h1 : cI M (z + 38 + 2 * h) 1 = who) (hnh : cI M (z + 30) 5 = nI nh) (hn : nh ≤ 1000000000) {x r : Nat} (hx : x < 24) (hr : r < 8) :
    RLK N K z (nI x) (nI r) M = fC_X2_push N K (z + 35) (cI M (z + 11) (8 * x + r)) (if cI M (z + 35) 9 = 0 ∧ cI M (z + 9) x = 1 ∧ who ≠ nI x then hfC z nh who (nI x) (nI r) M else M) := by
  have ix : nI x * (8 : Int32) + nI r = nI (8 * x + r) := ix8r x r
  have l61 : ∀ M2 : Cm, cR M2 = cR M → bC_X2_look_61 N K (z + 35) (nI x) (nI r) M2 = fC_X2_push N K (z + 35) (cI M2 (z + 11) (8 * x + r)) M2 := fun M2 e => by
    unfold bC_X2_look_61
    rw [gd_k (hL.k 35 3 0 rfl), e, nn_s (hL.r 35 0 8 (by decide)), gd_k (hL.k 8 5 0 rfl), nn_s (hL.r 8 2 11 (by decide)), gd_k (hL.k 11 22 192 rfl), hL.l 11 22 192 rfl (by decide), ix, ck_n (show 8 * x + r < 192 by omega) (by decide), nI_clamp (by omega)]
    exact bn_some _
  unfold RLK
  by_cases q1 : cI M (z + 35) 9 = 0
  · rw [if_pos q1, nn_s (hL.r 35 0 8 (by decide)), gd_k (hL.k 8 5 0 rfl), nn_s (hL.r 8 0 9 (by decide)), gd_k (hL.k 9 22 24 rfl), hL.l 9 22 24 rfl (by decide), ck_n hx (by decide), nI_clamp (by omega)]
    by_cases q2 : cI M (z + 9) x = 1
    · rw [if_pos q2, nn_s h5, gd_k (hL.2.2.1 h hh).2.1, h1]
      by_cases q3 : who = nI x
      · rw [if_pos q3, l61 M rfl, if_neg (show ¬ (cI M (z + 35) 9 = 0 ∧ cI M (z + 9) x = 1 ∧ who ≠ nI x) from fun w => w.2.2 q3)]
      · rw [if_neg q3, nn_s h5, gd_k (hL.2.2.1 h hh).2.1, nn_s (hL.r 35 1 30 (by decide)), gd_k (hL.k 30 1 0 rfl), h1, c_addHalf hL N hnh hn, bs, l61 _ (hfC_LR _ _ _ _ _ _).2, if_pos (show cI M (z + 35) 9 = 0 ∧ cI M (z + 9) x = 1 ∧ who ≠ nI x from ⟨q1, q2, q3⟩), hfC_o _ _ _ _ _ _ (by omega) (by omega)]
    · rw [if_neg q2, l61 M rfl, if_neg (show ¬ (cI M (z + 35) 9 = 0 ∧ cI M (z + 9) x = 1 ∧ who ≠ nI x) from fun w => q2 w.2.1)]
  · rw [if_neg q1, l61 M rfl, if_neg (show ¬ (cI M (z + 35) 9 = 0 ∧ cI M (z + 9) x = 1 ∧ who ≠ nI x) from fun w => q1 w.1)]
theorem o_4 (X : CDX z b st nd nu K M0 S0 mk rc cc g pi J cl) (hB : B0 + 1000000 ≤ 1000000000) (hN : 1000000 < N) (hC : clo = 0 → CUs z b st nd nu lim B0 N K M0 S0 dm) (m : MBX z b st nd nu lim B0 clo M0 S0 t h fl t0 U who M S) (f : FMp z b rc g pi J h fl t0 c M S) {k : Nat} (hd : clo = 0 → dn S (fun _ => 1) nu ≤ dm) (hk : clo = 0 → dn S (wt b nu S0) nu ≤ k) (hT : t + gS nu S + 2 ≤ 1000000) (ho : (g c).1 = 4) :
    ∃ e S2, fM_work N (gT N (k + 2)) (nI 4) (nI (g c).2.1) (nI (g c).2.2) who clo (pF S 99 (nI (10000 * b + (c + 1)))) = some (e, S2) ∧ ST1 z b st nd nu lim B0 N K clo M0 S0 rc g pi J t h fl t0 U who c M S e S2 := by
  have hh := m.hh X
  obtain ⟨b2, -⟩ := X.b2
  obtain ⟨hx, hsl⟩ := (X.pl f.1).2.2.2.2.1.2.2.1 (Or.inl ho)
  obtain ⟨r, hr8, h29, hs8, -⟩ := st_rank X hx hsl
  have hn24 : nu ≤ 24 := X.1.2.1
  have k35 : kd K (z + 35) = 3 := (m.ly X).k 35 3 0 rfl
  obtain ⟨-, -, p3, p4, -⟩ := X.pl f.1
  obtain ⟨c1, c2⟩ := p3 (by omega)
  obtain ⟨w1, w2, w3, w4, w5, w6⟩ := w1_nx p4 ho (by unfold ft; decide) (by decide) (by decide) (a := 0) (p := 1) rfl rfl
  have j34 := (X.pl c1).2.2.2.1.1.1
  have tw1 : tw (g c) = 1 := by unfold tw; rw [if_neg (by omega)]
  rw [tw1] at c2
  obtain ⟨f34, -⟩ := fl_34 m
  obtain ⟨e, S', a1, a2⟩ := uses_ok X hN hC m f (w := 4) (x := (g c).2.1) (k := k) (s := nI r) (by unfold cwd; rw [ho, h29]; rfl) (by decide) hx (by omega) (R := RLK N K z (nI (g c).2.1) (nI r)) (fun M => (pf4 k35 _ _).trans (lk_eq k35 _ _)) hd hk hT
  have hwk : fM_work N (gT N (k + 2)) (nI 4) (nI (g c).2.1) (nI (g c).2.2) who clo (pF S 99 (nI (10000 * b + (c + 1)))) = if e = 0 then ((fM_noteHalf N (nI (g c).2.1) (nI (g c).2.2) who clo S').bind fun o => ck (8 * nI (g c).2.1 + nI (g c).2.2) 192 ((fM_push N (mA o 56 (8 * nI (g c).2.1 + nI (g c).2.2 : Int32).toNatClampNeg) o).bind fun o => some (e, o))) else some (e, S') := by
    unfold fM_work bM_work_167
    rw [if_neg (by decide), if_neg (by decide), if_neg (by decide), if_pos (by decide), a1, bs]
  rcases a2 with ⟨rfl, t', M', q1, q2, q3, q4, q5, q6, q7⟩ | ⟨qe, q⟩
  · rw [if_pos rfl] at hwk
    obtain ⟨nh, no, n1, n2, mb⟩ := id q2
    obtain ⟨d, e1, e2, e3, e4, e5⟩ := id mb
    have hH := d.2.2.2.2.1
    have A : ∀ k, stR k → mA S' k = mA S0 k := d.1.2.2.2.2.2.1
    have h11 : mF S' 11 = nI b := by rw [d.1.2.2.2.2.1 11 (by unfold stF; omega)]; exact X.1.2.2.2.2.2.2.2.1
    obtain ⟨s5, -⟩ := q2.st5 (show (g c).2.1 < 24 by omega)
    have h29' : mA S' 29 (sl8 b (g c).2.1 (g c).2.2) = nI r := by rw [A 29 (by unfold stR; omega)]; exact h29
    have hsl' : SLs S' b (g c).2.1 (g c).2.2 0 := by
      unfold SLs at hsl ⊢
      rw [A 25 (by unfold stR; omega), A 27 (by unfold stR; omega)]; exact hsl
    have hv : cI M' (z + 11) (8 * (g c).2.1 + r) = mA S' 56 (8 * (g c).2.1 + (g c).2.2) := d.2.2.2.2.2.2.2.2.2 _ _ r hx hsl' hr8 h29'
    have mh := m_half (who := who) (clo := clo) (S := S') N (x := (g c).2.1) (s := (g c).2.2) (r := nI r) b2 (by omega) hs8 hH.2.2.1 hH.1 h11 h29'
    have le := lk_ev (N := N) (q2.ly X) (show h < 25 by omega) e1.2.1 e4.1 hH.2.1 hH.1 (x := (g c).2.1) (r := r) (by omega) hr8
    rw [e1.2.2.2.2.2.2.2, s5] at le
    rw [mh, bs] at hwk
    have ixe : (8 : Int32) * nI (g c).2.1 + nI (g c).2.2 = nI (8 * (g c).2.1 + (g c).2.2) := ix8 _ _
    rw [ixe, ck_n (show 8 * (g c).2.1 + (g c).2.2 < 192 by omega) (by decide), nI_clamp (show 8 * (g c).2.1 + (g c).2.2 < 2 ^ 31 by omega)] at hwk
    have key : ∀ (M3 : Cm) (S3 : Ms), MBX z b st nd nu lim B0 clo M0 S0 (t' + 1) h fl t0 U who M3 S3 → DCH z M' M3 S' S3 → mA S3 56 = mA S' 56 → RLK N K z (nI (g c).2.1) (nI r) M' = fC_X2_push N K (z + 35) (cI M' (z + 11) (8 * (g c).2.1 + r)) M3 →
        ∃ e S2, ((fM_push N (mA S3 56 (8 * (g c).2.1 + (g c).2.2)) S3).bind fun o => some ((0 : Int32), o)) = some (e, S2) ∧ ST1 z b st nd nu lim B0 N K clo M0 S0 rc g pi J t h fl t0 U who c M S e S2 := fun M3 S3 m3 d3 h56 hR => by
      obtain ⟨M4, S4, x1, x2, x3, x4, x5⟩ := push_ok (m3.ly X) N (h := h) (fl := fl) (n := (J c).1) (by omega) (by omega) (cI M' (z + 11) (8 * (g c).2.1 + r)) (q4.dch d3) (q3.dch d3 (by omega))
      refine ⟨0, S4, by rw [h56, ← hv, x2, bs], ok2 f ?_ (m3.pln x3) ((q5.tr (d3.pr (by omega))).tr x3.pr) c1 (by rw [c2, w3]; exact x5) (by rw [show (J (c + 1)).1 = (J c).1 + 1 by omega]; exact x4) ?_ q7 w4 (by omega)⟩
      · rw [q1, hR, x1, bs]
      · have := d3.gs (nu := nu)
        have := x3.gs (nu := nu)
        omega
    rw [hwk]
    by_cases qh : mA S' 54 (g c).2.1 = 1 ∧ who ≠ nI (g c).2.1 ∧ clo = 0
    · rw [if_pos qh]
      rw [if_pos (show clo = 0 ∧ mA S' 54 (g c).2.1 = 1 ∧ who ≠ nI (g c).2.1 from ⟨qh.2.2, qh.1, qh.2.1⟩)] at le
      have dc : DCH z M' (hfC z nh who (nI (g c).2.1) (nI r) M') S' (hfS nh who (nI (g c).2.1) (nI r) S') :=
        ⟨fun a ha => hfC_o _ _ _ _ _ _ (by omega) (by omega), (hfC_LR _ _ _ _ _ _).2, fun k hk => by rw [hfS_F, if_neg (by omega)], fun k hk => hfS_A _ _ _ _ _ (by omega), fun v y hy => by
          unfold NH at hy ⊢
          rw [hfS_A _ _ _ _ _ (by decide), hfS_A _ _ _ _ _ (by decide)]; exact hy⟩
      exact key _ _ ⟨nh + 1, no, by omega, by omega, mb.dch dc (by omega) (d.half (by omega))⟩ dc (hfS_A _ _ _ _ _ (by decide)) le
    · rw [if_neg qh]
      rw [if_neg (show ¬ (clo = 0 ∧ mA S' 54 (g c).2.1 = 1 ∧ who ≠ nI (g c).2.1) from fun w => qh ⟨w.2.1, w.2.2, w.1⟩)] at le
      exact key M' S' q2.up1 (DCH.rf z M' S') rfl le
  · rw [if_neg qe] at hwk
    exact ⟨e, S', hwk, q⟩
theorem o_5 (X : CDX z b st nd nu K M0 S0 mk rc cc g pi J cl) (hN : 1000000 < N) (hC : clo = 0 → CUs z b st nd nu lim B0 N K M0 S0 dm) (m : MBX z b st nd nu lim B0 clo M0 S0 t h fl t0 U who M S) (f : FMp z b rc g pi J h fl t0 c M S) {k : Nat} (hd : clo = 0 → dn S (fun _ => 1) nu ≤ dm) (hk : clo = 0 → dn S (wt b nu S0) nu ≤ k) (hT : t + gS nu S + 2 ≤ 1000000) (ho : (g c).1 = 5) :
    ∃ e S2, fM_work N (gT N (k + 2)) (nI 5) (nI (g c).2.1) (nI (g c).2.2) who clo (pF S 99 (nI (10000 * b + (c + 1)))) = some (e, S2) ∧ ST1 z b st nd nu lim B0 N K clo M0 S0 rc g pi J t h fl t0 U who c M S e S2 := by
  have hh := m.hh X
  obtain ⟨hx, hsl⟩ := (X.pl f.1).2.2.2.2.1.2.2.1 (Or.inr ho)
  obtain ⟨r, hr8, h29, hs8, hinj⟩ := st_rank X hx hsl
  have hn24 : nu ≤ 24 := X.1.2.1
  have k35 : kd K (z + 35) = 3 := (m.ly X).k 35 3 0 rfl
  obtain ⟨-, -, p3, p4, -⟩ := X.pl f.1
  obtain ⟨c1, c2⟩ := p3 (by omega)
  obtain ⟨w1, w2, w3, w4, w5, w6⟩ := w1_nx p4 ho (by unfold ft; decide) (by decide) (by decide) (a := 1) (p := 0) rfl rfl
  have tw1 : tw (g c) = 1 := by unfold tw; rw [if_neg (by omega)]
  rw [tw1] at c2
  obtain ⟨f34, -⟩ := fl_34 m
  obtain ⟨e, S', a1, a2⟩ := uses_ok X hN hC m f (w := 5) (x := (g c).2.1) (k := k) (s := nI r) (by unfold cwd; rw [ho, h29]; rfl) (by decide) hx (by omega) (R := RSO N K z (nI (g c).2.1) (nI r)) (fun M => (pf5 k35 _ _).trans (so_eq k35 _ _)) hd hk hT
  have hwk : fM_work N (gT N (k + 2)) (nI 5) (nI (g c).2.1) (nI (g c).2.2) who clo (pF S 99 (nI (10000 * b + (c + 1)))) = if e = 0 then ((fM_pop N S').bind fun o => ck (8 * nI (g c).2.1 + nI (g c).2.2) 192 (some (e, pA o.2 56 (8 * nI (g c).2.1 + nI (g c).2.2 : Int32).toNatClampNeg o.1))) else some (e, S') := by
    unfold fM_work bM_work_201
    rw [if_neg (by decide), if_neg (by decide), if_neg (by decide), if_neg (by decide), if_pos (by decide), a1, bs]
  rcases a2 with ⟨rfl, t', M', q1, q2, q3, q4, q5, q6, q7⟩ | ⟨qe, q⟩
  · rw [if_pos rfl] at hwk
    obtain ⟨n, hn⟩ : ∃ n, (J c).1 = n + 1 := ⟨(J c).1 - 1, by omega⟩
    rw [hn] at q4
    obtain ⟨v, M1, S1, x1, x2, x3, x4, x5⟩ := pop_ok (q2.ly X) N (h := h) (fl := fl) (n := n) (by omega) (by omega) q4 q3
    have m1 := q2.pln x3
    have ixe : (8 : Int32) * nI (g c).2.1 + nI (g c).2.2 = nI (8 * (g c).2.1 + (g c).2.2) := ix8 _ _
    rw [x2, bs, ixe, ck_n (show 8 * (g c).2.1 + (g c).2.2 < 192 by omega) (by decide), nI_clamp (show 8 * (g c).2.1 + (g c).2.2 < 2 ^ 31 by omega)] at hwk
    obtain ⟨nh, no, n1, n2, mb⟩ := id m1
    have d := mb.1
    have A : ∀ k, stR k → mA S1 k = mA S0 k := d.1.2.2.2.2.2.1
    have hL' := q2.ly X
    have hR : RSO N K z (nI (g c).2.1) (nI r) M' = some (wI M1 (z + 11) (8 * (g c).2.1 + r) v) := by
      unfold RSO bC_X2_store_31
      rw [nn_s (hL'.r 35 0 8 (by decide)), gd_k (hL'.k 8 5 0 rfl), nn_s (hL'.r 8 2 11 (by decide)), x1, bs, gd_k (hL'.k 11 22 192 rfl), hL'.l 11 22 192 rfl (by decide), ix8r, ck_n (show 8 * (g c).2.1 + r < 192 by omega) (by decide), nI_clamp (by omega)]
    have dc : DCH z M1 (wI M1 (z + 11) (8 * (g c).2.1 + r) v) S1 (pA S1 56 (8 * (g c).2.1 + (g c).2.2) v) :=
      ⟨fun a ha => by rw [cI_wI_ne _ _ _ (by omega)], rfl, fun k _ => rfl, fun k hk => by rw [mA_Ane _ _ _ (by omega)], fun v y hy => by
        unfold NH at hy ⊢
        rw [mA_Ane _ _ _ (by decide), mA_Ane _ _ _ (by decide)]; exact hy⟩
    have hsl' : SLs S1 b (g c).2.1 (g c).2.2 0 := by
      unfold SLs at hsl ⊢
      rw [A 25 (by unfold stR; omega), A 27 (by unfold stR; omega)]; exact hsl
    have m2 : MBX z b st nd nu lim B0 clo M0 S0 t' h fl t0 U who (wI M1 (z + 11) (8 * (g c).2.1 + r) v) (pA S1 56 (8 * (g c).2.1 + (g c).2.2) v) := by
      refine ⟨nh, no, n1, n2, mb.dch dc (by omega) (d.sto hx hsl' hr8 (by rw [A 29 (by unfold stR; omega)]; exact h29) (fun s' hs' hr' => hinj s' ?_ ?_))⟩
      · unfold SLs at hs' ⊢
        rw [A 25 (by unfold stR; omega), A 27 (by unfold stR; omega)] at hs'; exact hs'
      · rw [A 29 (by unfold stR; omega)] at hr'; exact hr'
    refine ⟨0, _, hwk, ok2 f ?_ m2.up1 ((q5.tr x3.pr).tr (dc.pr (by omega))) c1 ?_ ?_ ?_ q7 w4 (by omega)⟩
    · rw [q1, hR, bs]
    · rw [c2, w3]; exact x5.dch dc (by omega)
    · rw [show (J (c + 1)).1 = n by omega]; exact x4.dch dc
    · exact Nat.le_trans (Nat.add_le_add_left (Nat.le_trans dc.gs x3.gs) t') q6
  · rw [if_neg qe] at hwk
    exact ⟨e, S', hwk, q⟩
end USES
